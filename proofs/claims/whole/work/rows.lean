section
-- ===== PART A: goes FIRST, ahead of the names: the tables' words, and 'selects' of the private methods out of them =====
/-- a private method of a class that the tables say can be made, by its rows of tables_1 -/
def lw_okq (q : MethodName × Nat) : Prop := (q.1.cls ≠ "java/lang/invoke/MethodHandle" ∧ q.1.cls ≠ "java/lang/invoke/VarHandle") ∧ Cond.instantiable q.1.cls q.2 ∈ tables_1 ∧ Cond.privateMethod q.1 ∈ tables_1 ∧ Cond.instanceMethod q.1 ∈ tables_1
theorem lw_p0 : lw_okq (⟨"ClayBoots$Walk", "takeUp", "(II)V"⟩, 6) := ⟨⟨by decide +kernel, by decide +kernel⟩, List.mem_of_getElem? (i := 382) (by decide +kernel), List.mem_of_getElem? (i := 586) (by decide +kernel), List.mem_of_getElem? (i := 587) (by decide +kernel)⟩
theorem lw_p1 : lw_okq (⟨"ClayBoots$Law", "reckon", "(II[I)I"⟩, 8) := ⟨⟨by decide +kernel, by decide +kernel⟩, List.mem_of_getElem? (i := 149) (by decide +kernel), List.mem_of_getElem? (i := 604) (by decide +kernel), List.mem_of_getElem? (i := 605) (by decide +kernel)⟩
theorem lw_p2 : lw_okq (⟨"ClayBoots$Walk", "straysFrom", "(II)Z"⟩, 6) := ⟨⟨by decide +kernel, by decide +kernel⟩, List.mem_of_getElem? (i := 382) (by decide +kernel), List.mem_of_getElem? (i := 613) (by decide +kernel), List.mem_of_getElem? (i := 614) (by decide +kernel)⟩
theorem lw_p3 : lw_okq (⟨"ClayBoots$Walk", "nextDoor", "(I)I"⟩, 6) := ⟨⟨by decide +kernel, by decide +kernel⟩, List.mem_of_getElem? (i := 382) (by decide +kernel), List.mem_of_getElem? (i := 625) (by decide +kernel), List.mem_of_getElem? (i := 626) (by decide +kernel)⟩
theorem lw_p4 : lw_okq (⟨"ClayBoots$Walk", "leaveAt", "(II)I"⟩, 6) := ⟨⟨by decide +kernel, by decide +kernel⟩, List.mem_of_getElem? (i := 382) (by decide +kernel), List.mem_of_getElem? (i := 629) (by decide +kernel), List.mem_of_getElem? (i := 630) (by decide +kernel)⟩
theorem lw_p5 : lw_okq (⟨"ClayBoots", "canAct", "(II)Z"⟩, 10) := ⟨⟨by decide +kernel, by decide +kernel⟩, List.mem_of_getElem? (i := 21) (by decide +kernel), List.mem_of_getElem? (i := 641) (by decide +kernel), List.mem_of_getElem? (i := 642) (by decide +kernel)⟩
theorem lw_p6 : lw_okq (⟨"ClayBoots$Walk", "dropAtHome", "(I)V"⟩, 6) := ⟨⟨by decide +kernel, by decide +kernel⟩, List.mem_of_getElem? (i := 382) (by decide +kernel), List.mem_of_getElem? (i := 672) (by decide +kernel), List.mem_of_getElem? (i := 673) (by decide +kernel)⟩
theorem lw_p7 : lw_okq (⟨"ClayBoots$Reader", "findTokens", "()V"⟩, 15) := ⟨⟨by decide +kernel, by decide +kernel⟩, List.mem_of_getElem? (i := 321) (by decide +kernel), List.mem_of_getElem? (i := 696) (by decide +kernel), List.mem_of_getElem? (i := 697) (by decide +kernel)⟩
theorem lw_p8 : lw_okq (⟨"ClayBoots$Reader", "endOfLetters", "(I)I"⟩, 15) := ⟨⟨by decide +kernel, by decide +kernel⟩, List.mem_of_getElem? (i := 321) (by decide +kernel), List.mem_of_getElem? (i := 703) (by decide +kernel), List.mem_of_getElem? (i := 704) (by decide +kernel)⟩
theorem lw_p9 : lw_okq (⟨"ClayBoots$Reader", "wordFrom", "(II)I"⟩, 15) := ⟨⟨by decide +kernel, by decide +kernel⟩, List.mem_of_getElem? (i := 321) (by decide +kernel), List.mem_of_getElem? (i := 707) (by decide +kernel), List.mem_of_getElem? (i := 708) (by decide +kernel)⟩
theorem lw_p10 : lw_okq (⟨"ClayBoots$Reader", "standsAt", "(III)Z"⟩, 15) := ⟨⟨by decide +kernel, by decide +kernel⟩, List.mem_of_getElem? (i := 321) (by decide +kernel), List.mem_of_getElem? (i := 760) (by decide +kernel), List.mem_of_getElem? (i := 761) (by decide +kernel)⟩
theorem lw_p11 : lw_okq (⟨"ClayBoots$Reader", "addToken", "(II)V"⟩, 15) := ⟨⟨by decide +kernel, by decide +kernel⟩, List.mem_of_getElem? (i := 321) (by decide +kernel), List.mem_of_getElem? (i := 764) (by decide +kernel), List.mem_of_getElem? (i := 765) (by decide +kernel)⟩
theorem lw_p12 : lw_okq (⟨"ClayBoots$Reader", "endOfDigits", "(I)I"⟩, 15) := ⟨⟨by decide +kernel, by decide +kernel⟩, List.mem_of_getElem? (i := 321) (by decide +kernel), List.mem_of_getElem? (i := 771) (by decide +kernel), List.mem_of_getElem? (i := 772) (by decide +kernel)⟩
theorem lw_p13 : lw_okq (⟨"ClayBoots$Reader", "numberFrom", "(II)I"⟩, 15) := ⟨⟨by decide +kernel, by decide +kernel⟩, List.mem_of_getElem? (i := 321) (by decide +kernel), List.mem_of_getElem? (i := 775) (by decide +kernel), List.mem_of_getElem? (i := 776) (by decide +kernel)⟩
theorem lw_p14 : lw_okq (⟨"ClayBoots$Reader", "is", "(I)Z"⟩, 15) := ⟨⟨by decide +kernel, by decide +kernel⟩, List.mem_of_getElem? (i := 321) (by decide +kernel), List.mem_of_getElem? (i := 787) (by decide +kernel), List.mem_of_getElem? (i := 788) (by decide +kernel)⟩
theorem lw_p15 : lw_okq (⟨"ClayBoots$Reader", "lawLine", "(I)V"⟩, 15) := ⟨⟨by decide +kernel, by decide +kernel⟩, List.mem_of_getElem? (i := 321) (by decide +kernel), List.mem_of_getElem? (i := 791) (by decide +kernel), List.mem_of_getElem? (i := 792) (by decide +kernel)⟩
def lw_privs_1 : List (MethodName × Nat) := [(⟨"ClayBoots$Walk", "takeUp", "(II)V"⟩, 6), (⟨"ClayBoots$Law", "reckon", "(II[I)I"⟩, 8), (⟨"ClayBoots$Walk", "straysFrom", "(II)Z"⟩, 6), (⟨"ClayBoots$Walk", "nextDoor", "(I)I"⟩, 6), (⟨"ClayBoots$Walk", "leaveAt", "(II)I"⟩, 6), (⟨"ClayBoots", "canAct", "(II)Z"⟩, 10), (⟨"ClayBoots$Walk", "dropAtHome", "(I)V"⟩, 6), (⟨"ClayBoots$Reader", "findTokens", "()V"⟩, 15), (⟨"ClayBoots$Reader", "endOfLetters", "(I)I"⟩, 15), (⟨"ClayBoots$Reader", "wordFrom", "(II)I"⟩, 15), (⟨"ClayBoots$Reader", "standsAt", "(III)Z"⟩, 15), (⟨"ClayBoots$Reader", "addToken", "(II)V"⟩, 15), (⟨"ClayBoots$Reader", "endOfDigits", "(I)I"⟩, 15), (⟨"ClayBoots$Reader", "numberFrom", "(II)I"⟩, 15), (⟨"ClayBoots$Reader", "is", "(I)Z"⟩, 15), (⟨"ClayBoots$Reader", "lawLine", "(I)V"⟩, 15)]
theorem lw_r1 : ∀ q ∈ lw_privs_1, lw_okq q := List.forall_mem_cons.mpr ⟨lw_p0, List.forall_mem_cons.mpr ⟨lw_p1, List.forall_mem_cons.mpr ⟨lw_p2, List.forall_mem_cons.mpr ⟨lw_p3, List.forall_mem_cons.mpr ⟨lw_p4, List.forall_mem_cons.mpr ⟨lw_p5, List.forall_mem_cons.mpr ⟨lw_p6, List.forall_mem_cons.mpr ⟨lw_p7, List.forall_mem_cons.mpr ⟨lw_p8, List.forall_mem_cons.mpr ⟨lw_p9, List.forall_mem_cons.mpr ⟨lw_p10, List.forall_mem_cons.mpr ⟨lw_p11, List.forall_mem_cons.mpr ⟨lw_p12, List.forall_mem_cons.mpr ⟨lw_p13, List.forall_mem_cons.mpr ⟨lw_p14, List.forall_mem_cons.mpr ⟨lw_p15, fun _ h => absurd h List.not_mem_nil⟩⟩⟩⟩⟩⟩⟩⟩⟩⟩⟩⟩⟩⟩⟩⟩
theorem lw_p16 : lw_okq (⟨"ClayBoots$Reader", "beginLine", "(ZI)V"⟩, 15) := ⟨⟨by decide +kernel, by decide +kernel⟩, List.mem_of_getElem? (i := 321) (by decide +kernel), List.mem_of_getElem? (i := 795) (by decide +kernel), List.mem_of_getElem? (i := 796) (by decide +kernel)⟩
theorem lw_p17 : lw_okq (⟨"ClayBoots$Reader", "blame", "(I)V"⟩, 15) := ⟨⟨by decide +kernel, by decide +kernel⟩, List.mem_of_getElem? (i := 321) (by decide +kernel), List.mem_of_getElem? (i := 799) (by decide +kernel), List.mem_of_getElem? (i := 800) (by decide +kernel)⟩
theorem lw_p18 : lw_okq (⟨"ClayBoots$Reader", "step", "()V"⟩, 15) := ⟨⟨by decide +kernel, by decide +kernel⟩, List.mem_of_getElem? (i := 321) (by decide +kernel), List.mem_of_getElem? (i := 803) (by decide +kernel), List.mem_of_getElem? (i := 804) (by decide +kernel)⟩
theorem lw_p19 : lw_okq (⟨"ClayBoots$Reader", "sum", "()V"⟩, 15) := ⟨⟨by decide +kernel, by decide +kernel⟩, List.mem_of_getElem? (i := 321) (by decide +kernel), List.mem_of_getElem? (i := 807) (by decide +kernel), List.mem_of_getElem? (i := 808) (by decide +kernel)⟩
theorem lw_p20 : lw_okq (⟨"ClayBoots$Reader", "product", "()V"⟩, 15) := ⟨⟨by decide +kernel, by decide +kernel⟩, List.mem_of_getElem? (i := 321) (by decide +kernel), List.mem_of_getElem? (i := 811) (by decide +kernel), List.mem_of_getElem? (i := 812) (by decide +kernel)⟩
theorem lw_p21 : lw_okq (⟨"ClayBoots$Reader", "operand", "()V"⟩, 15) := ⟨⟨by decide +kernel, by decide +kernel⟩, List.mem_of_getElem? (i := 321) (by decide +kernel), List.mem_of_getElem? (i := 815) (by decide +kernel), List.mem_of_getElem? (i := 816) (by decide +kernel)⟩
theorem lw_p22 : lw_okq (⟨"ClayBoots$Reader", "numberWithin", "(II)I"⟩, 15) := ⟨⟨by decide +kernel, by decide +kernel⟩, List.mem_of_getElem? (i := 321) (by decide +kernel), List.mem_of_getElem? (i := 823) (by decide +kernel), List.mem_of_getElem? (i := 824) (by decide +kernel)⟩
theorem lw_p23 : lw_okq (⟨"ClayBoots$Reader", "isNumber", "()Z"⟩, 15) := ⟨⟨by decide +kernel, by decide +kernel⟩, List.mem_of_getElem? (i := 321) (by decide +kernel), List.mem_of_getElem? (i := 827) (by decide +kernel), List.mem_of_getElem? (i := 828) (by decide +kernel)⟩
theorem lw_p24 : lw_okq (⟨"ClayBoots$Reader", "condition", "()V"⟩, 15) := ⟨⟨by decide +kernel, by decide +kernel⟩, List.mem_of_getElem? (i := 321) (by decide +kernel), List.mem_of_getElem? (i := 831) (by decide +kernel), List.mem_of_getElem? (i := 832) (by decide +kernel)⟩
theorem lw_p25 : lw_okq (⟨"ClayBoots$Reader", "await", "()V"⟩, 15) := ⟨⟨by decide +kernel, by decide +kernel⟩, List.mem_of_getElem? (i := 321) (by decide +kernel), List.mem_of_getElem? (i := 835) (by decide +kernel), List.mem_of_getElem? (i := 836) (by decide +kernel)⟩
theorem lw_p26 : lw_okq (⟨"ClayBoots$Reader", "closeAndJoin", "()Z"⟩, 15) := ⟨⟨by decide +kernel, by decide +kernel⟩, List.mem_of_getElem? (i := 321) (by decide +kernel), List.mem_of_getElem? (i := 839) (by decide +kernel), List.mem_of_getElem? (i := 840) (by decide +kernel)⟩
theorem lw_p27 : lw_okq (⟨"ClayBoots$Reader", "settle", "(I)V"⟩, 15) := ⟨⟨by decide +kernel, by decide +kernel⟩, List.mem_of_getElem? (i := 321) (by decide +kernel), List.mem_of_getElem? (i := 843) (by decide +kernel), List.mem_of_getElem? (i := 844) (by decide +kernel)⟩
theorem lw_p28 : lw_okq (⟨"ClayBoots$Reader", "need", "(I)V"⟩, 15) := ⟨⟨by decide +kernel, by decide +kernel⟩, List.mem_of_getElem? (i := 321) (by decide +kernel), List.mem_of_getElem? (i := 847) (by decide +kernel), List.mem_of_getElem? (i := 848) (by decide +kernel)⟩
theorem lw_p29 : lw_okq (⟨"ClayBoots$Reader", "callLine", "(I)V"⟩, 15) := ⟨⟨by decide +kernel, by decide +kernel⟩, List.mem_of_getElem? (i := 321) (by decide +kernel), List.mem_of_getElem? (i := 851) (by decide +kernel), List.mem_of_getElem? (i := 852) (by decide +kernel)⟩
theorem lw_p30 : lw_okq (⟨"ClayBoots$Reader", "fieldRow", "()I"⟩, 15) := ⟨⟨by decide +kernel, by decide +kernel⟩, List.mem_of_getElem? (i := 321) (by decide +kernel), List.mem_of_getElem? (i := 855) (by decide +kernel), List.mem_of_getElem? (i := 856) (by decide +kernel)⟩
theorem lw_p31 : lw_okq (⟨"ClayBoots$Reader", "skyLine", "(I)V"⟩, 15) := ⟨⟨by decide +kernel, by decide +kernel⟩, List.mem_of_getElem? (i := 321) (by decide +kernel), List.mem_of_getElem? (i := 859) (by decide +kernel), List.mem_of_getElem? (i := 860) (by decide +kernel)⟩
def lw_privs_2 : List (MethodName × Nat) := [(⟨"ClayBoots$Reader", "beginLine", "(ZI)V"⟩, 15), (⟨"ClayBoots$Reader", "blame", "(I)V"⟩, 15), (⟨"ClayBoots$Reader", "step", "()V"⟩, 15), (⟨"ClayBoots$Reader", "sum", "()V"⟩, 15), (⟨"ClayBoots$Reader", "product", "()V"⟩, 15), (⟨"ClayBoots$Reader", "operand", "()V"⟩, 15), (⟨"ClayBoots$Reader", "numberWithin", "(II)I"⟩, 15), (⟨"ClayBoots$Reader", "isNumber", "()Z"⟩, 15), (⟨"ClayBoots$Reader", "condition", "()V"⟩, 15), (⟨"ClayBoots$Reader", "await", "()V"⟩, 15), (⟨"ClayBoots$Reader", "closeAndJoin", "()Z"⟩, 15), (⟨"ClayBoots$Reader", "settle", "(I)V"⟩, 15), (⟨"ClayBoots$Reader", "need", "(I)V"⟩, 15), (⟨"ClayBoots$Reader", "callLine", "(I)V"⟩, 15), (⟨"ClayBoots$Reader", "fieldRow", "()I"⟩, 15), (⟨"ClayBoots$Reader", "skyLine", "(I)V"⟩, 15)]
theorem lw_r2 : ∀ q ∈ lw_privs_2, lw_okq q := List.forall_mem_cons.mpr ⟨lw_p16, List.forall_mem_cons.mpr ⟨lw_p17, List.forall_mem_cons.mpr ⟨lw_p18, List.forall_mem_cons.mpr ⟨lw_p19, List.forall_mem_cons.mpr ⟨lw_p20, List.forall_mem_cons.mpr ⟨lw_p21, List.forall_mem_cons.mpr ⟨lw_p22, List.forall_mem_cons.mpr ⟨lw_p23, List.forall_mem_cons.mpr ⟨lw_p24, List.forall_mem_cons.mpr ⟨lw_p25, List.forall_mem_cons.mpr ⟨lw_p26, List.forall_mem_cons.mpr ⟨lw_p27, List.forall_mem_cons.mpr ⟨lw_p28, List.forall_mem_cons.mpr ⟨lw_p29, List.forall_mem_cons.mpr ⟨lw_p30, List.forall_mem_cons.mpr ⟨lw_p31, fun _ h => absurd h List.not_mem_nil⟩⟩⟩⟩⟩⟩⟩⟩⟩⟩⟩⟩⟩⟩⟩⟩
theorem lw_p32 : lw_okq (⟨"ClayBoots$Reader", "wayLine", "(I)V"⟩, 15) := ⟨⟨by decide +kernel, by decide +kernel⟩, List.mem_of_getElem? (i := 321) (by decide +kernel), List.mem_of_getElem? (i := 863) (by decide +kernel), List.mem_of_getElem? (i := 864) (by decide +kernel)⟩
theorem lw_p33 : lw_okq (⟨"ClayBoots$Thoughts", "giveOneMore", "(II)V"⟩, 12) := ⟨⟨by decide +kernel, by decide +kernel⟩, List.mem_of_getElem? (i := 248) (by decide +kernel), List.mem_of_getElem? (i := 995) (by decide +kernel), List.mem_of_getElem? (i := 996) (by decide +kernel)⟩
theorem lw_p34 : lw_okq (⟨"ClayBoots$Thoughts", "ringFrom", "(I)I"⟩, 12) := ⟨⟨by decide +kernel, by decide +kernel⟩, List.mem_of_getElem? (i := 248) (by decide +kernel), List.mem_of_getElem? (i := 1013) (by decide +kernel), List.mem_of_getElem? (i := 1014) (by decide +kernel)⟩
theorem lw_p35 : lw_okq (⟨"ClayBoots$Thoughts", "nextCaller", "(I)I"⟩, 12) := ⟨⟨by decide +kernel, by decide +kernel⟩, List.mem_of_getElem? (i := 248) (by decide +kernel), List.mem_of_getElem? (i := 1061) (by decide +kernel), List.mem_of_getElem? (i := 1062) (by decide +kernel)⟩
theorem lw_p36 : lw_okq (⟨"ClayBoots$Thoughts", "freeFirst", "(I)I"⟩, 12) := ⟨⟨by decide +kernel, by decide +kernel⟩, List.mem_of_getElem? (i := 248) (by decide +kernel), List.mem_of_getElem? (i := 1065) (by decide +kernel), List.mem_of_getElem? (i := 1066) (by decide +kernel)⟩
theorem lw_p37 : lw_okq (⟨"ClayBoots$Plans", "spread", "(IIZ)I"⟩, 12) := ⟨⟨by decide +kernel, by decide +kernel⟩, List.mem_of_getElem? (i := 187) (by decide +kernel), List.mem_of_getElem? (i := 1106) (by decide +kernel), List.mem_of_getElem? (i := 1107) (by decide +kernel)⟩
theorem lw_p38 : lw_okq (⟨"ClayBoots$Plans", "nearest", "(I)I"⟩, 12) := ⟨⟨by decide +kernel, by decide +kernel⟩, List.mem_of_getElem? (i := 187) (by decide +kernel), List.mem_of_getElem? (i := 1111) (by decide +kernel), List.mem_of_getElem? (i := 1112) (by decide +kernel)⟩
theorem lw_p39 : lw_okq (⟨"ClayBoots$Thoughts", "rowsEndingAt", "(I)V"⟩, 12) := ⟨⟨by decide +kernel, by decide +kernel⟩, List.mem_of_getElem? (i := 248) (by decide +kernel), List.mem_of_getElem? (i := 1143) (by decide +kernel), List.mem_of_getElem? (i := 1144) (by decide +kernel)⟩
theorem lw_p40 : lw_okq (⟨"ClayBootsModel", "forgets", "()V"⟩, 38) := ⟨⟨by decide +kernel, by decide +kernel⟩, List.mem_of_getElem? (i := 1189) (by decide +kernel), List.mem_of_getElem? (i := 1318) (by decide +kernel), List.mem_of_getElem? (i := 1319) (by decide +kernel)⟩
theorem lw_p41 : lw_okq (⟨"ClayBootsModel", "isDoor", "(I)Z"⟩, 38) := ⟨⟨by decide +kernel, by decide +kernel⟩, List.mem_of_getElem? (i := 1189) (by decide +kernel), List.mem_of_getElem? (i := 1337) (by decide +kernel), List.mem_of_getElem? (i := 1338) (by decide +kernel)⟩
theorem lw_p42 : lw_okq (⟨"ClayBootsModel", "isField", "(I)Z"⟩, 38) := ⟨⟨by decide +kernel, by decide +kernel⟩, List.mem_of_getElem? (i := 1189) (by decide +kernel), List.mem_of_getElem? (i := 1345) (by decide +kernel), List.mem_of_getElem? (i := 1346) (by decide +kernel)⟩
theorem lw_p43 : lw_okq (⟨"ClayBootsModel", "isPerson", "(I)Z"⟩, 38) := ⟨⟨by decide +kernel, by decide +kernel⟩, List.mem_of_getElem? (i := 1189) (by decide +kernel), List.mem_of_getElem? (i := 1349) (by decide +kernel), List.mem_of_getElem? (i := 1350) (by decide +kernel)⟩
theorem lw_p44 : lw_okq (⟨"ClayBootsModel", "next0", "()V"⟩, 38) := ⟨⟨by decide +kernel, by decide +kernel⟩, List.mem_of_getElem? (i := 1189) (by decide +kernel), List.mem_of_getElem? (i := 1365) (by decide +kernel), List.mem_of_getElem? (i := 1366) (by decide +kernel)⟩
theorem lw_p45 : lw_okq (⟨"ClayBootsModel", "see", "(I)I"⟩, 38) := ⟨⟨by decide +kernel, by decide +kernel⟩, List.mem_of_getElem? (i := 1189) (by decide +kernel), List.mem_of_getElem? (i := 1369) (by decide +kernel), List.mem_of_getElem? (i := 1370) (by decide +kernel)⟩
theorem lw_p46 : lw_okq (⟨"ClayBootsModel", "word", "()I"⟩, 38) := ⟨⟨by decide +kernel, by decide +kernel⟩, List.mem_of_getElem? (i := 1189) (by decide +kernel), List.mem_of_getElem? (i := 1376) (by decide +kernel), List.mem_of_getElem? (i := 1377) (by decide +kernel)⟩
theorem lw_p47 : lw_okq (⟨"ClayBootsModel", "lawWord", "()I"⟩, 38) := ⟨⟨by decide +kernel, by decide +kernel⟩, List.mem_of_getElem? (i := 1189) (by decide +kernel), List.mem_of_getElem? (i := 1380) (by decide +kernel), List.mem_of_getElem? (i := 1381) (by decide +kernel)⟩
def lw_privs_3 : List (MethodName × Nat) := [(⟨"ClayBoots$Reader", "wayLine", "(I)V"⟩, 15), (⟨"ClayBoots$Thoughts", "giveOneMore", "(II)V"⟩, 12), (⟨"ClayBoots$Thoughts", "ringFrom", "(I)I"⟩, 12), (⟨"ClayBoots$Thoughts", "nextCaller", "(I)I"⟩, 12), (⟨"ClayBoots$Thoughts", "freeFirst", "(I)I"⟩, 12), (⟨"ClayBoots$Plans", "spread", "(IIZ)I"⟩, 12), (⟨"ClayBoots$Plans", "nearest", "(I)I"⟩, 12), (⟨"ClayBoots$Thoughts", "rowsEndingAt", "(I)V"⟩, 12), (⟨"ClayBootsModel", "forgets", "()V"⟩, 38), (⟨"ClayBootsModel", "isDoor", "(I)Z"⟩, 38), (⟨"ClayBootsModel", "isField", "(I)Z"⟩, 38), (⟨"ClayBootsModel", "isPerson", "(I)Z"⟩, 38), (⟨"ClayBootsModel", "next0", "()V"⟩, 38), (⟨"ClayBootsModel", "see", "(I)I"⟩, 38), (⟨"ClayBootsModel", "word", "()I"⟩, 38), (⟨"ClayBootsModel", "lawWord", "()I"⟩, 38)]
theorem lw_r3 : ∀ q ∈ lw_privs_3, lw_okq q := List.forall_mem_cons.mpr ⟨lw_p32, List.forall_mem_cons.mpr ⟨lw_p33, List.forall_mem_cons.mpr ⟨lw_p34, List.forall_mem_cons.mpr ⟨lw_p35, List.forall_mem_cons.mpr ⟨lw_p36, List.forall_mem_cons.mpr ⟨lw_p37, List.forall_mem_cons.mpr ⟨lw_p38, List.forall_mem_cons.mpr ⟨lw_p39, List.forall_mem_cons.mpr ⟨lw_p40, List.forall_mem_cons.mpr ⟨lw_p41, List.forall_mem_cons.mpr ⟨lw_p42, List.forall_mem_cons.mpr ⟨lw_p43, List.forall_mem_cons.mpr ⟨lw_p44, List.forall_mem_cons.mpr ⟨lw_p45, List.forall_mem_cons.mpr ⟨lw_p46, List.forall_mem_cons.mpr ⟨lw_p47, fun _ h => absurd h List.not_mem_nil⟩⟩⟩⟩⟩⟩⟩⟩⟩⟩⟩⟩⟩⟩⟩⟩
theorem lw_p48 : lw_okq (⟨"ClayBootsModel", "is", "(Ljava/lang/String;)Z"⟩, 38) := ⟨⟨by decide +kernel, by decide +kernel⟩, List.mem_of_getElem? (i := 1189) (by decide +kernel), List.mem_of_getElem? (i := 1385) (by decide +kernel), List.mem_of_getElem? (i := 1386) (by decide +kernel)⟩
theorem lw_p49 : lw_okq (⟨"ClayBootsModel", "asked", "()I"⟩, 38) := ⟨⟨by decide +kernel, by decide +kernel⟩, List.mem_of_getElem? (i := 1189) (by decide +kernel), List.mem_of_getElem? (i := 1397) (by decide +kernel), List.mem_of_getElem? (i := 1398) (by decide +kernel)⟩
theorem lw_p50 : lw_okq (⟨"ClayBootsModel", "readsLaw", "()Z"⟩, 38) := ⟨⟨by decide +kernel, by decide +kernel⟩, List.mem_of_getElem? (i := 1189) (by decide +kernel), List.mem_of_getElem? (i := 1420) (by decide +kernel), List.mem_of_getElem? (i := 1421) (by decide +kernel)⟩
theorem lw_p51 : lw_okq (⟨"ClayBootsModel", "aLine", "()Z"⟩, 38) := ⟨⟨by decide +kernel, by decide +kernel⟩, List.mem_of_getElem? (i := 1189) (by decide +kernel), List.mem_of_getElem? (i := 1424) (by decide +kernel), List.mem_of_getElem? (i := 1425) (by decide +kernel)⟩
theorem lw_p52 : lw_okq (⟨"ClayBootsModel", "bad", "(I)Z"⟩, 38) := ⟨⟨by decide +kernel, by decide +kernel⟩, List.mem_of_getElem? (i := 1189) (by decide +kernel), List.mem_of_getElem? (i := 1428) (by decide +kernel), List.mem_of_getElem? (i := 1429) (by decide +kernel)⟩
theorem lw_p53 : lw_okq (⟨"ClayBootsModel", "sumUp", "()Z"⟩, 38) := ⟨⟨by decide +kernel, by decide +kernel⟩, List.mem_of_getElem? (i := 1189) (by decide +kernel), List.mem_of_getElem? (i := 1432) (by decide +kernel), List.mem_of_getElem? (i := 1433) (by decide +kernel)⟩
theorem lw_p54 : lw_okq (⟨"ClayBootsModel", "product", "()Z"⟩, 38) := ⟨⟨by decide +kernel, by decide +kernel⟩, List.mem_of_getElem? (i := 1189) (by decide +kernel), List.mem_of_getElem? (i := 1436) (by decide +kernel), List.mem_of_getElem? (i := 1437) (by decide +kernel)⟩
theorem lw_p55 : lw_okq (⟨"ClayBootsModel", "unit", "()Z"⟩, 38) := ⟨⟨by decide +kernel, by decide +kernel⟩, List.mem_of_getElem? (i := 1189) (by decide +kernel), List.mem_of_getElem? (i := 1440) (by decide +kernel), List.mem_of_getElem? (i := 1441) (by decide +kernel)⟩
theorem lw_p56 : lw_okq (⟨"ClayBootsModel", "lay", "(II)V"⟩, 38) := ⟨⟨by decide +kernel, by decide +kernel⟩, List.mem_of_getElem? (i := 1189) (by decide +kernel), List.mem_of_getElem? (i := 1444) (by decide +kernel), List.mem_of_getElem? (i := 1445) (by decide +kernel)⟩
theorem lw_p57 : lw_okq (⟨"ClayBootsModel", "any", "()Z"⟩, 38) := ⟨⟨by decide +kernel, by decide +kernel⟩, List.mem_of_getElem? (i := 1189) (by decide +kernel), List.mem_of_getElem? (i := 1448) (by decide +kernel), List.mem_of_getElem? (i := 1449) (by decide +kernel)⟩
theorem lw_p58 : lw_okq (⟨"ClayBootsModel", "every", "()Z"⟩, 38) := ⟨⟨by decide +kernel, by decide +kernel⟩, List.mem_of_getElem? (i := 1189) (by decide +kernel), List.mem_of_getElem? (i := 1452) (by decide +kernel), List.mem_of_getElem? (i := 1453) (by decide +kernel)⟩
theorem lw_p59 : lw_okq (⟨"ClayBootsModel", "oneTest", "()Z"⟩, 38) := ⟨⟨by decide +kernel, by decide +kernel⟩, List.mem_of_getElem? (i := 1189) (by decide +kernel), List.mem_of_getElem? (i := 1456) (by decide +kernel), List.mem_of_getElem? (i := 1457) (by decide +kernel)⟩
theorem lw_p60 : lw_okq (⟨"ClayBootsModel", "opens", "()Z"⟩, 38) := ⟨⟨by decide +kernel, by decide +kernel⟩, List.mem_of_getElem? (i := 1189) (by decide +kernel), List.mem_of_getElem? (i := 1460) (by decide +kernel), List.mem_of_getElem? (i := 1461) (by decide +kernel)⟩
theorem lw_p61 : lw_okq (⟨"ClayBootsModel", "need", "(I)Z"⟩, 38) := ⟨⟨by decide +kernel, by decide +kernel⟩, List.mem_of_getElem? (i := 1189) (by decide +kernel), List.mem_of_getElem? (i := 1464) (by decide +kernel), List.mem_of_getElem? (i := 1465) (by decide +kernel)⟩
theorem lw_p62 : lw_okq (⟨"ClayBootsModel", "readsRows", "()Z"⟩, 38) := ⟨⟨by decide +kernel, by decide +kernel⟩, List.mem_of_getElem? (i := 1189) (by decide +kernel), List.mem_of_getElem? (i := 1468) (by decide +kernel), List.mem_of_getElem? (i := 1469) (by decide +kernel)⟩
theorem lw_p63 : lw_okq (⟨"ClayBootsModel", "aRow", "()Z"⟩, 38) := ⟨⟨by decide +kernel, by decide +kernel⟩, List.mem_of_getElem? (i := 1189) (by decide +kernel), List.mem_of_getElem? (i := 1472) (by decide +kernel), List.mem_of_getElem? (i := 1473) (by decide +kernel)⟩
def lw_privs_4 : List (MethodName × Nat) := [(⟨"ClayBootsModel", "is", "(Ljava/lang/String;)Z"⟩, 38), (⟨"ClayBootsModel", "asked", "()I"⟩, 38), (⟨"ClayBootsModel", "readsLaw", "()Z"⟩, 38), (⟨"ClayBootsModel", "aLine", "()Z"⟩, 38), (⟨"ClayBootsModel", "bad", "(I)Z"⟩, 38), (⟨"ClayBootsModel", "sumUp", "()Z"⟩, 38), (⟨"ClayBootsModel", "product", "()Z"⟩, 38), (⟨"ClayBootsModel", "unit", "()Z"⟩, 38), (⟨"ClayBootsModel", "lay", "(II)V"⟩, 38), (⟨"ClayBootsModel", "any", "()Z"⟩, 38), (⟨"ClayBootsModel", "every", "()Z"⟩, 38), (⟨"ClayBootsModel", "oneTest", "()Z"⟩, 38), (⟨"ClayBootsModel", "opens", "()Z"⟩, 38), (⟨"ClayBootsModel", "need", "(I)Z"⟩, 38), (⟨"ClayBootsModel", "readsRows", "()Z"⟩, 38), (⟨"ClayBootsModel", "aRow", "()Z"⟩, 38)]
theorem lw_r4 : ∀ q ∈ lw_privs_4, lw_okq q := List.forall_mem_cons.mpr ⟨lw_p48, List.forall_mem_cons.mpr ⟨lw_p49, List.forall_mem_cons.mpr ⟨lw_p50, List.forall_mem_cons.mpr ⟨lw_p51, List.forall_mem_cons.mpr ⟨lw_p52, List.forall_mem_cons.mpr ⟨lw_p53, List.forall_mem_cons.mpr ⟨lw_p54, List.forall_mem_cons.mpr ⟨lw_p55, List.forall_mem_cons.mpr ⟨lw_p56, List.forall_mem_cons.mpr ⟨lw_p57, List.forall_mem_cons.mpr ⟨lw_p58, List.forall_mem_cons.mpr ⟨lw_p59, List.forall_mem_cons.mpr ⟨lw_p60, List.forall_mem_cons.mpr ⟨lw_p61, List.forall_mem_cons.mpr ⟨lw_p62, List.forall_mem_cons.mpr ⟨lw_p63, fun _ h => absurd h List.not_mem_nil⟩⟩⟩⟩⟩⟩⟩⟩⟩⟩⟩⟩⟩⟩⟩⟩
theorem lw_p64 : lw_okq (⟨"ClayBootsModel", "aCall", "()Z"⟩, 38) := ⟨⟨by decide +kernel, by decide +kernel⟩, List.mem_of_getElem? (i := 1189) (by decide +kernel), List.mem_of_getElem? (i := 1476) (by decide +kernel), List.mem_of_getElem? (i := 1477) (by decide +kernel)⟩
theorem lw_p65 : lw_okq (⟨"ClayBootsModel", "told", "(IIII)Z"⟩, 38) := ⟨⟨by decide +kernel, by decide +kernel⟩, List.mem_of_getElem? (i := 1189) (by decide +kernel), List.mem_of_getElem? (i := 1480) (by decide +kernel), List.mem_of_getElem? (i := 1481) (by decide +kernel)⟩
theorem lw_p66 : lw_okq (⟨"ClayBootsModel", "number", "(III)Z"⟩, 38) := ⟨⟨by decide +kernel, by decide +kernel⟩, List.mem_of_getElem? (i := 1189) (by decide +kernel), List.mem_of_getElem? (i := 1484) (by decide +kernel), List.mem_of_getElem? (i := 1485) (by decide +kernel)⟩
theorem lw_p67 : lw_okq (⟨"ClayBootsModel", "fieldsGoOn", "(I)Z"⟩, 38) := ⟨⟨by decide +kernel, by decide +kernel⟩, List.mem_of_getElem? (i := 1189) (by decide +kernel), List.mem_of_getElem? (i := 1488) (by decide +kernel), List.mem_of_getElem? (i := 1489) (by decide +kernel)⟩
theorem lw_p68 : lw_okq (⟨"ClayBootsModel", "aSky", "()Z"⟩, 38) := ⟨⟨by decide +kernel, by decide +kernel⟩, List.mem_of_getElem? (i := 1189) (by decide +kernel), List.mem_of_getElem? (i := 1492) (by decide +kernel), List.mem_of_getElem? (i := 1493) (by decide +kernel)⟩
theorem lw_p69 : lw_okq (⟨"ClayBootsModel", "aWay", "()Z"⟩, 38) := ⟨⟨by decide +kernel, by decide +kernel⟩, List.mem_of_getElem? (i := 1189) (by decide +kernel), List.mem_of_getElem? (i := 1496) (by decide +kernel), List.mem_of_getElem? (i := 1497) (by decide +kernel)⟩
theorem lw_p70 : lw_okq (⟨"ClayBootsModel", "laysWay", "(III)V"⟩, 38) := ⟨⟨by decide +kernel, by decide +kernel⟩, List.mem_of_getElem? (i := 1189) (by decide +kernel), List.mem_of_getElem? (i := 1500) (by decide +kernel), List.mem_of_getElem? (i := 1501) (by decide +kernel)⟩
theorem lw_p71 : lw_okq (⟨"ClayBootsModel", "putsText", "(I)I"⟩, 38) := ⟨⟨by decide +kernel, by decide +kernel⟩, List.mem_of_getElem? (i := 1189) (by decide +kernel), List.mem_of_getElem? (i := 1507) (by decide +kernel), List.mem_of_getElem? (i := 1508) (by decide +kernel)⟩
theorem lw_p72 : lw_okq (⟨"ClayBootsModel", "putsLaw", "()I"⟩, 38) := ⟨⟨by decide +kernel, by decide +kernel⟩, List.mem_of_getElem? (i := 1189) (by decide +kernel), List.mem_of_getElem? (i := 1511) (by decide +kernel), List.mem_of_getElem? (i := 1512) (by decide +kernel)⟩
theorem lw_p73 : lw_okq (⟨"ClayBootsModel", "puts", "(III)I"⟩, 38) := ⟨⟨by decide +kernel, by decide +kernel⟩, List.mem_of_getElem? (i := 1189) (by decide +kernel), List.mem_of_getElem? (i := 1515) (by decide +kernel), List.mem_of_getElem? (i := 1516) (by decide +kernel)⟩
theorem lw_p74 : lw_okq (⟨"ClayBootsModel", "laysFields", "(I)Z"⟩, 38) := ⟨⟨by decide +kernel, by decide +kernel⟩, List.mem_of_getElem? (i := 1189) (by decide +kernel), List.mem_of_getElem? (i := 1531) (by decide +kernel), List.mem_of_getElem? (i := 1532) (by decide +kernel)⟩
theorem lw_p75 : lw_okq (⟨"ClayBootsModel", "keeps", "()V"⟩, 38) := ⟨⟨by decide +kernel, by decide +kernel⟩, List.mem_of_getElem? (i := 1189) (by decide +kernel), List.mem_of_getElem? (i := 1535) (by decide +kernel), List.mem_of_getElem? (i := 1536) (by decide +kernel)⟩
theorem lw_p76 : lw_okq (⟨"ClayBootsModel", "calls", "(II)I"⟩, 38) := ⟨⟨by decide +kernel, by decide +kernel⟩, List.mem_of_getElem? (i := 1189) (by decide +kernel), List.mem_of_getElem? (i := 1539) (by decide +kernel), List.mem_of_getElem? (i := 1540) (by decide +kernel)⟩
theorem lw_p77 : lw_okq (⟨"ClayBootsModel", "goesBy", "(II)V"⟩, 38) := ⟨⟨by decide +kernel, by decide +kernel⟩, List.mem_of_getElem? (i := 1189) (by decide +kernel), List.mem_of_getElem? (i := 1543) (by decide +kernel), List.mem_of_getElem? (i := 1544) (by decide +kernel)⟩
theorem lw_p78 : lw_okq (⟨"ClayBootsModel", "takesOf", "(II)I"⟩, 38) := ⟨⟨by decide +kernel, by decide +kernel⟩, List.mem_of_getElem? (i := 1189) (by decide +kernel), List.mem_of_getElem? (i := 1547) (by decide +kernel), List.mem_of_getElem? (i := 1548) (by decide +kernel)⟩
theorem lw_p79 : lw_okq (⟨"ClayBootsModel", "asks", "(III)V"⟩, 38) := ⟨⟨by decide +kernel, by decide +kernel⟩, List.mem_of_getElem? (i := 1189) (by decide +kernel), List.mem_of_getElem? (i := 1551) (by decide +kernel), List.mem_of_getElem? (i := 1552) (by decide +kernel)⟩
def lw_privs_5 : List (MethodName × Nat) := [(⟨"ClayBootsModel", "aCall", "()Z"⟩, 38), (⟨"ClayBootsModel", "told", "(IIII)Z"⟩, 38), (⟨"ClayBootsModel", "number", "(III)Z"⟩, 38), (⟨"ClayBootsModel", "fieldsGoOn", "(I)Z"⟩, 38), (⟨"ClayBootsModel", "aSky", "()Z"⟩, 38), (⟨"ClayBootsModel", "aWay", "()Z"⟩, 38), (⟨"ClayBootsModel", "laysWay", "(III)V"⟩, 38), (⟨"ClayBootsModel", "putsText", "(I)I"⟩, 38), (⟨"ClayBootsModel", "putsLaw", "()I"⟩, 38), (⟨"ClayBootsModel", "puts", "(III)I"⟩, 38), (⟨"ClayBootsModel", "laysFields", "(I)Z"⟩, 38), (⟨"ClayBootsModel", "keeps", "()V"⟩, 38), (⟨"ClayBootsModel", "calls", "(II)I"⟩, 38), (⟨"ClayBootsModel", "goesBy", "(II)V"⟩, 38), (⟨"ClayBootsModel", "takesOf", "(II)I"⟩, 38), (⟨"ClayBootsModel", "asks", "(III)V"⟩, 38)]
theorem lw_r5 : ∀ q ∈ lw_privs_5, lw_okq q := List.forall_mem_cons.mpr ⟨lw_p64, List.forall_mem_cons.mpr ⟨lw_p65, List.forall_mem_cons.mpr ⟨lw_p66, List.forall_mem_cons.mpr ⟨lw_p67, List.forall_mem_cons.mpr ⟨lw_p68, List.forall_mem_cons.mpr ⟨lw_p69, List.forall_mem_cons.mpr ⟨lw_p70, List.forall_mem_cons.mpr ⟨lw_p71, List.forall_mem_cons.mpr ⟨lw_p72, List.forall_mem_cons.mpr ⟨lw_p73, List.forall_mem_cons.mpr ⟨lw_p74, List.forall_mem_cons.mpr ⟨lw_p75, List.forall_mem_cons.mpr ⟨lw_p76, List.forall_mem_cons.mpr ⟨lw_p77, List.forall_mem_cons.mpr ⟨lw_p78, List.forall_mem_cons.mpr ⟨lw_p79, fun _ h => absurd h List.not_mem_nil⟩⟩⟩⟩⟩⟩⟩⟩⟩⟩⟩⟩⟩⟩⟩⟩
theorem lw_p80 : lw_okq (⟨"ClayBootsModel", "load", "(I)I"⟩, 38) := ⟨⟨by decide +kernel, by decide +kernel⟩, List.mem_of_getElem? (i := 1189) (by decide +kernel), List.mem_of_getElem? (i := 1555) (by decide +kernel), List.mem_of_getElem? (i := 1556) (by decide +kernel)⟩
theorem lw_p81 : lw_okq (⟨"ClayBootsModel", "says", "(III)I"⟩, 38) := ⟨⟨by decide +kernel, by decide +kernel⟩, List.mem_of_getElem? (i := 1189) (by decide +kernel), List.mem_of_getElem? (i := 1559) (by decide +kernel), List.mem_of_getElem? (i := 1560) (by decide +kernel)⟩
theorem lw_p82 : lw_okq (⟨"ClayBootsModel", "isSo", "(I)Z"⟩, 38) := ⟨⟨by decide +kernel, by decide +kernel⟩, List.mem_of_getElem? (i := 1189) (by decide +kernel), List.mem_of_getElem? (i := 1563) (by decide +kernel), List.mem_of_getElem? (i := 1564) (by decide +kernel)⟩
theorem lw_p83 : lw_okq (⟨"ClayBootsModel", "comesTo", "(III)I"⟩, 38) := ⟨⟨by decide +kernel, by decide +kernel⟩, List.mem_of_getElem? (i := 1189) (by decide +kernel), List.mem_of_getElem? (i := 1567) (by decide +kernel), List.mem_of_getElem? (i := 1568) (by decide +kernel)⟩
theorem lw_p84 : lw_okq (⟨"ClayBootsModel", "straysOf", "(II)I"⟩, 38) := ⟨⟨by decide +kernel, by decide +kernel⟩, List.mem_of_getElem? (i := 1189) (by decide +kernel), List.mem_of_getElem? (i := 1577) (by decide +kernel), List.mem_of_getElem? (i := 1578) (by decide +kernel)⟩
theorem lw_p85 : lw_okq (⟨"ClayBootsModel", "isStone", "(I)Z"⟩, 38) := ⟨⟨by decide +kernel, by decide +kernel⟩, List.mem_of_getElem? (i := 1189) (by decide +kernel), List.mem_of_getElem? (i := 1581) (by decide +kernel), List.mem_of_getElem? (i := 1582) (by decide +kernel)⟩
theorem lw_p86 : lw_okq (⟨"ClayBootsModel", "draw", "(I)I"⟩, 38) := ⟨⟨by decide +kernel, by decide +kernel⟩, List.mem_of_getElem? (i := 1189) (by decide +kernel), List.mem_of_getElem? (i := 1585) (by decide +kernel), List.mem_of_getElem? (i := 1586) (by decide +kernel)⟩
theorem lw_p87 : lw_okq (⟨"ClayBootsModel", "notes", "(III)V"⟩, 38) := ⟨⟨by decide +kernel, by decide +kernel⟩, List.mem_of_getElem? (i := 1189) (by decide +kernel), List.mem_of_getElem? (i := 1591) (by decide +kernel), List.mem_of_getElem? (i := 1592) (by decide +kernel)⟩
theorem lw_p88 : lw_okq (⟨"ClayBootsModel", "wipes", "(II)I"⟩, 38) := ⟨⟨by decide +kernel, by decide +kernel⟩, List.mem_of_getElem? (i := 1189) (by decide +kernel), List.mem_of_getElem? (i := 1595) (by decide +kernel), List.mem_of_getElem? (i := 1596) (by decide +kernel)⟩
theorem lw_p89 : lw_okq (⟨"ClayBootsModel", "leavesOf", "(III)I"⟩, 38) := ⟨⟨by decide +kernel, by decide +kernel⟩, List.mem_of_getElem? (i := 1189) (by decide +kernel), List.mem_of_getElem? (i := 1599) (by decide +kernel), List.mem_of_getElem? (i := 1600) (by decide +kernel)⟩
theorem lw_p90 : lw_okq (⟨"ClayBootsModel", "canAct", "(II)Z"⟩, 38) := ⟨⟨by decide +kernel, by decide +kernel⟩, List.mem_of_getElem? (i := 1189) (by decide +kernel), List.mem_of_getElem? (i := 1607) (by decide +kernel), List.mem_of_getElem? (i := 1608) (by decide +kernel)⟩
theorem lw_p91 : lw_okq (⟨"ClayBootsModel", "sweeps", "(I)V"⟩, 38) := ⟨⟨by decide +kernel, by decide +kernel⟩, List.mem_of_getElem? (i := 1189) (by decide +kernel), List.mem_of_getElem? (i := 1611) (by decide +kernel), List.mem_of_getElem? (i := 1612) (by decide +kernel)⟩
theorem lw_p92 : lw_okq (⟨"ClayBootsModel", "toLand", "(II)V"⟩, 38) := ⟨⟨by decide +kernel, by decide +kernel⟩, List.mem_of_getElem? (i := 1189) (by decide +kernel), List.mem_of_getElem? (i := 1615) (by decide +kernel), List.mem_of_getElem? (i := 1616) (by decide +kernel)⟩
theorem lw_p93 : lw_okq (⟨"ClayBootsModel", "aDay", "()I"⟩, 38) := ⟨⟨by decide +kernel, by decide +kernel⟩, List.mem_of_getElem? (i := 1189) (by decide +kernel), List.mem_of_getElem? (i := 1623) (by decide +kernel), List.mem_of_getElem? (i := 1624) (by decide +kernel)⟩
theorem lw_p94 : lw_okq (⟨"ClayBootsModel", "isSky", "(I)V"⟩, 38) := ⟨⟨by decide +kernel, by decide +kernel⟩, List.mem_of_getElem? (i := 1189) (by decide +kernel), List.mem_of_getElem? (i := 1627) (by decide +kernel), List.mem_of_getElem? (i := 1628) (by decide +kernel)⟩
theorem lw_p95 : lw_okq (⟨"ClayBootsModel", "laysCall", "(I)V"⟩, 38) := ⟨⟨by decide +kernel, by decide +kernel⟩, List.mem_of_getElem? (i := 1189) (by decide +kernel), List.mem_of_getElem? (i := 1631) (by decide +kernel), List.mem_of_getElem? (i := 1632) (by decide +kernel)⟩
def lw_privs_6 : List (MethodName × Nat) := [(⟨"ClayBootsModel", "load", "(I)I"⟩, 38), (⟨"ClayBootsModel", "says", "(III)I"⟩, 38), (⟨"ClayBootsModel", "isSo", "(I)Z"⟩, 38), (⟨"ClayBootsModel", "comesTo", "(III)I"⟩, 38), (⟨"ClayBootsModel", "straysOf", "(II)I"⟩, 38), (⟨"ClayBootsModel", "isStone", "(I)Z"⟩, 38), (⟨"ClayBootsModel", "draw", "(I)I"⟩, 38), (⟨"ClayBootsModel", "notes", "(III)V"⟩, 38), (⟨"ClayBootsModel", "wipes", "(II)I"⟩, 38), (⟨"ClayBootsModel", "leavesOf", "(III)I"⟩, 38), (⟨"ClayBootsModel", "canAct", "(II)Z"⟩, 38), (⟨"ClayBootsModel", "sweeps", "(I)V"⟩, 38), (⟨"ClayBootsModel", "toLand", "(II)V"⟩, 38), (⟨"ClayBootsModel", "aDay", "()I"⟩, 38), (⟨"ClayBootsModel", "isSky", "(I)V"⟩, 38), (⟨"ClayBootsModel", "laysCall", "(I)V"⟩, 38)]
theorem lw_r6 : ∀ q ∈ lw_privs_6, lw_okq q := List.forall_mem_cons.mpr ⟨lw_p80, List.forall_mem_cons.mpr ⟨lw_p81, List.forall_mem_cons.mpr ⟨lw_p82, List.forall_mem_cons.mpr ⟨lw_p83, List.forall_mem_cons.mpr ⟨lw_p84, List.forall_mem_cons.mpr ⟨lw_p85, List.forall_mem_cons.mpr ⟨lw_p86, List.forall_mem_cons.mpr ⟨lw_p87, List.forall_mem_cons.mpr ⟨lw_p88, List.forall_mem_cons.mpr ⟨lw_p89, List.forall_mem_cons.mpr ⟨lw_p90, List.forall_mem_cons.mpr ⟨lw_p91, List.forall_mem_cons.mpr ⟨lw_p92, List.forall_mem_cons.mpr ⟨lw_p93, List.forall_mem_cons.mpr ⟨lw_p94, List.forall_mem_cons.mpr ⟨lw_p95, fun _ h => absurd h List.not_mem_nil⟩⟩⟩⟩⟩⟩⟩⟩⟩⟩⟩⟩⟩⟩⟩⟩
theorem lw_p96 : lw_okq (⟨"ClayBootsModel", "fallsAtHome", "(I)V"⟩, 38) := ⟨⟨by decide +kernel, by decide +kernel⟩, List.mem_of_getElem? (i := 1189) (by decide +kernel), List.mem_of_getElem? (i := 1635) (by decide +kernel), List.mem_of_getElem? (i := 1636) (by decide +kernel)⟩
theorem lw_p97 : lw_okq (⟨"ClayBootsModel", "holder", "(I)I"⟩, 38) := ⟨⟨by decide +kernel, by decide +kernel⟩, List.mem_of_getElem? (i := 1189) (by decide +kernel), List.mem_of_getElem? (i := 1647) (by decide +kernel), List.mem_of_getElem? (i := 1648) (by decide +kernel)⟩
theorem lw_p98 : lw_okq (⟨"ClayBootsModel", "acres", "(I)I"⟩, 38) := ⟨⟨by decide +kernel, by decide +kernel⟩, List.mem_of_getElem? (i := 1189) (by decide +kernel), List.mem_of_getElem? (i := 1655) (by decide +kernel), List.mem_of_getElem? (i := 1656) (by decide +kernel)⟩
theorem lw_p99 : lw_okq (⟨"ClayBootsModel", "county", "(I)I"⟩, 38) := ⟨⟨by decide +kernel, by decide +kernel⟩, List.mem_of_getElem? (i := 1189) (by decide +kernel), List.mem_of_getElem? (i := 1659) (by decide +kernel), List.mem_of_getElem? (i := 1660) (by decide +kernel)⟩
theorem lw_p100 : lw_okq (⟨"ClayBootsModel", "lays", "()V"⟩, 38) := ⟨⟨by decide +kernel, by decide +kernel⟩, List.mem_of_getElem? (i := 1189) (by decide +kernel), List.mem_of_getElem? (i := 1675) (by decide +kernel), List.mem_of_getElem? (i := 1676) (by decide +kernel)⟩
theorem lw_p101 : lw_okq (⟨"ClayBootsModel", "putsBack", "()V"⟩, 38) := ⟨⟨by decide +kernel, by decide +kernel⟩, List.mem_of_getElem? (i := 1189) (by decide +kernel), List.mem_of_getElem? (i := 1679) (by decide +kernel), List.mem_of_getElem? (i := 1680) (by decide +kernel)⟩
theorem lw_p102 : lw_okq (⟨"ClayBootsModel", "are", "(III)Z"⟩, 38) := ⟨⟨by decide +kernel, by decide +kernel⟩, List.mem_of_getElem? (i := 1189) (by decide +kernel), List.mem_of_getElem? (i := 1687) (by decide +kernel), List.mem_of_getElem? (i := 1688) (by decide +kernel)⟩
theorem lw_p103 : lw_okq (⟨"ClayBootsModel", "laysOrder", "(II)Z"⟩, 38) := ⟨⟨by decide +kernel, by decide +kernel⟩, List.mem_of_getElem? (i := 1189) (by decide +kernel), List.mem_of_getElem? (i := 1699) (by decide +kernel), List.mem_of_getElem? (i := 1700) (by decide +kernel)⟩
theorem lw_p104 : lw_okq (⟨"ClayBootsModel", "mixOf", "(I)J"⟩, 38) := ⟨⟨by decide +kernel, by decide +kernel⟩, List.mem_of_getElem? (i := 1189) (by decide +kernel), List.mem_of_getElem? (i := 1711) (by decide +kernel), List.mem_of_getElem? (i := 1712) (by decide +kernel)⟩
theorem lw_p105 : lw_okq (⟨"ClayBootsModel", "wornFrom", "(III)I"⟩, 38) := ⟨⟨by decide +kernel, by decide +kernel⟩, List.mem_of_getElem? (i := 1189) (by decide +kernel), List.mem_of_getElem? (i := 1732) (by decide +kernel), List.mem_of_getElem? (i := 1733) (by decide +kernel)⟩
theorem lw_p106 : lw_okq (⟨"ClayBootsModel", "scrapes", "(II)I"⟩, 38) := ⟨⟨by decide +kernel, by decide +kernel⟩, List.mem_of_getElem? (i := 1189) (by decide +kernel), List.mem_of_getElem? (i := 1751) (by decide +kernel), List.mem_of_getElem? (i := 1752) (by decide +kernel)⟩
theorem lw_p107 : lw_okq (⟨"ClayBootsModel", "laysFair", "(I)V"⟩, 38) := ⟨⟨by decide +kernel, by decide +kernel⟩, List.mem_of_getElem? (i := 1189) (by decide +kernel), List.mem_of_getElem? (i := 1763) (by decide +kernel), List.mem_of_getElem? (i := 1764) (by decide +kernel)⟩
theorem lw_p108 : lw_okq (⟨"ClayBootsModel", "greatestOf", "(I)I"⟩, 38) := ⟨⟨by decide +kernel, by decide +kernel⟩, List.mem_of_getElem? (i := 1189) (by decide +kernel), List.mem_of_getElem? (i := 1775) (by decide +kernel), List.mem_of_getElem? (i := 1776) (by decide +kernel)⟩
theorem lw_p109 : lw_okq (⟨"ClayBootsModel", "spans", "()I"⟩, 38) := ⟨⟨by decide +kernel, by decide +kernel⟩, List.mem_of_getElem? (i := 1189) (by decide +kernel), List.mem_of_getElem? (i := 1783) (by decide +kernel), List.mem_of_getElem? (i := 1784) (by decide +kernel)⟩
theorem lw_p110 : lw_okq (⟨"ClayBootsModel", "long0", "(II)I"⟩, 38) := ⟨⟨by decide +kernel, by decide +kernel⟩, List.mem_of_getElem? (i := 1189) (by decide +kernel), List.mem_of_getElem? (i := 1788) (by decide +kernel), List.mem_of_getElem? (i := 1789) (by decide +kernel)⟩
theorem lw_p111 : lw_okq (⟨"ClayBootsModel", "shortest", "(II)I"⟩, 38) := ⟨⟨by decide +kernel, by decide +kernel⟩, List.mem_of_getElem? (i := 1189) (by decide +kernel), List.mem_of_getElem? (i := 1792) (by decide +kernel), List.mem_of_getElem? (i := 1793) (by decide +kernel)⟩
def lw_privs_7 : List (MethodName × Nat) := [(⟨"ClayBootsModel", "fallsAtHome", "(I)V"⟩, 38), (⟨"ClayBootsModel", "holder", "(I)I"⟩, 38), (⟨"ClayBootsModel", "acres", "(I)I"⟩, 38), (⟨"ClayBootsModel", "county", "(I)I"⟩, 38), (⟨"ClayBootsModel", "lays", "()V"⟩, 38), (⟨"ClayBootsModel", "putsBack", "()V"⟩, 38), (⟨"ClayBootsModel", "are", "(III)Z"⟩, 38), (⟨"ClayBootsModel", "laysOrder", "(II)Z"⟩, 38), (⟨"ClayBootsModel", "mixOf", "(I)J"⟩, 38), (⟨"ClayBootsModel", "wornFrom", "(III)I"⟩, 38), (⟨"ClayBootsModel", "scrapes", "(II)I"⟩, 38), (⟨"ClayBootsModel", "laysFair", "(I)V"⟩, 38), (⟨"ClayBootsModel", "greatestOf", "(I)I"⟩, 38), (⟨"ClayBootsModel", "spans", "()I"⟩, 38), (⟨"ClayBootsModel", "long0", "(II)I"⟩, 38), (⟨"ClayBootsModel", "shortest", "(II)I"⟩, 38)]
theorem lw_r7 : ∀ q ∈ lw_privs_7, lw_okq q := List.forall_mem_cons.mpr ⟨lw_p96, List.forall_mem_cons.mpr ⟨lw_p97, List.forall_mem_cons.mpr ⟨lw_p98, List.forall_mem_cons.mpr ⟨lw_p99, List.forall_mem_cons.mpr ⟨lw_p100, List.forall_mem_cons.mpr ⟨lw_p101, List.forall_mem_cons.mpr ⟨lw_p102, List.forall_mem_cons.mpr ⟨lw_p103, List.forall_mem_cons.mpr ⟨lw_p104, List.forall_mem_cons.mpr ⟨lw_p105, List.forall_mem_cons.mpr ⟨lw_p106, List.forall_mem_cons.mpr ⟨lw_p107, List.forall_mem_cons.mpr ⟨lw_p108, List.forall_mem_cons.mpr ⟨lw_p109, List.forall_mem_cons.mpr ⟨lw_p110, List.forall_mem_cons.mpr ⟨lw_p111, fun _ h => absurd h List.not_mem_nil⟩⟩⟩⟩⟩⟩⟩⟩⟩⟩⟩⟩⟩⟩⟩⟩
theorem lw_p112 : lw_okq (⟨"ClayBootsModel", "laysRows", "()V"⟩, 38) := ⟨⟨by decide +kernel, by decide +kernel⟩, List.mem_of_getElem? (i := 1189) (by decide +kernel), List.mem_of_getElem? (i := 1813) (by decide +kernel), List.mem_of_getElem? (i := 1814) (by decide +kernel)⟩
def lw_privs_8 : List (MethodName × Nat) := [(⟨"ClayBootsModel", "laysRows", "()V"⟩, 38)]
theorem lw_r8 : ∀ q ∈ lw_privs_8, lw_okq q := List.forall_mem_cons.mpr ⟨lw_p112, fun _ h => absurd h List.not_mem_nil⟩
def lw_privs : List (MethodName × Nat) := lw_privs_1 ++ (lw_privs_2 ++ (lw_privs_3 ++ (lw_privs_4 ++ (lw_privs_5 ++ (lw_privs_6 ++ (lw_privs_7 ++ (lw_privs_8)))))))
def lw_tbl : List Cond := k2_sels lw_privs ++ tables_1
theorem lw_privs_ok : ∀ q ∈ lw_privs, lw_okq q := by
  show ∀ q ∈ lw_privs_1 ++ (lw_privs_2 ++ (lw_privs_3 ++ (lw_privs_4 ++ (lw_privs_5 ++ (lw_privs_6 ++ (lw_privs_7 ++ (lw_privs_8))))))), lw_okq q
  exact List.forall_mem_append.mpr ⟨lw_r1, List.forall_mem_append.mpr ⟨lw_r2, List.forall_mem_append.mpr ⟨lw_r3, List.forall_mem_append.mpr ⟨lw_r4, List.forall_mem_append.mpr ⟨lw_r5, List.forall_mem_append.mpr ⟨lw_r6, List.forall_mem_append.mpr ⟨lw_r7, lw_r8⟩⟩⟩⟩⟩⟩⟩
end
section
/-! names, fields, columns, methods, links: written by wip/whole/emit1.py -/
abbrev Vl : Type := Int32 ⊕ (Int64 ⊕ (Nat × Nat))
abbrev En : Type := Nat × Nat × Nat × Int32 × Nat × Nat × List (Int32 × Nat)
def qCN : List String := ["ClayBoots$Book", "ClayBoots$Image", "ClayBoots$Law", "ClayBoots$Past", "ClayBoots$Plans", "ClayBoots$Reader", "ClayBoots$Shire", "ClayBoots$Thoughts", "ClayBoots$Told", "ClayBoots$Walk", "ClayBoots", "ClayBootsModel", "ClayBootsLaw", "java/lang/Integer", "java/lang/String", "java/lang/StringLatin1", "java/lang/Math", "java/lang/System"]
def qcn (o : Nat) : String := qCN.getD o ""
def qFT : List (List (String × String × String × Bool)) := [
  [("ClayBoots$Book", "lines", "I", false), ("ClayBoots$Book", "parts", "[I", true)],
  [("ClayBoots$Image", "taken", "Z", false), ("ClayBoots$Image", "shire", "LClayBoots$Shire;", true), ("ClayBoots$Image", "law", "LClayBoots$Law;", true), ("ClayBoots$Image", "plans", "LClayBoots$Plans;", true), ("ClayBoots$Image", "thoughts", "LClayBoots$Thoughts;", true)],
  [("ClayBoots$Law", "lines", "I", false), ("ClayBoots$Law", "length", "I", false), ("ClayBoots$Law", "words", "[I", true), ("ClayBoots$Law", "froms", "[I", true), ("ClayBoots$Law", "whens", "[I", true), ("ClayBoots$Law", "ends", "[I", true), ("ClayBoots$Law", "code", "[I", true), ("ClayBoots$Law", "stack", "[I", true)],
  [("ClayBoots$Past", "count", "I", false), ("ClayBoots$Past", "next", "I", false), ("ClayBoots$Past", "shires", "[LClayBoots$Shire;", true)],
  [("ClayBoots$Plans", "callLines", "I", false), ("ClayBoots$Plans", "skyLines", "I", false), ("ClayBoots$Plans", "wayLines", "I", false), ("ClayBoots$Plans", "callDays", "[I", true), ("ClayBoots$Plans", "callPeople", "[I", true), ("ClayBoots$Plans", "callRows", "[I", true), ("ClayBoots$Plans", "callDoors", "[I", true), ("ClayBoots$Plans", "skyDays", "[I", true), ("ClayBoots$Plans", "skies", "[I", true), ("ClayBoots$Plans", "ways", "[I", true), ("ClayBoots$Plans", "near", "[I", true), ("ClayBoots$Plans", "reached", "[Z", true)],
  [("ClayBoots$Reader", "shire", "LClayBoots$Shire;", true), ("ClayBoots$Reader", "law", "LClayBoots$Law;", true), ("ClayBoots$Reader", "plans", "LClayBoots$Plans;", true), ("ClayBoots$Reader", "tape", "[I", true), ("ClayBoots$Reader", "tokens", "[I", true), ("ClayBoots$Reader", "places", "[I", true), ("ClayBoots$Reader", "waiting", "[I", true), ("ClayBoots$Reader", "size", "I", false), ("ClayBoots$Reader", "tokenCount", "I", false), ("ClayBoots$Reader", "at", "I", false), ("ClayBoots$Reader", "now", "I", false), ("ClayBoots$Reader", "waits", "I", false), ("ClayBoots$Reader", "opened", "I", false), ("ClayBoots$Reader", "faultKind", "I", false), ("ClayBoots$Reader", "faultPlace", "I", false)],
  [("ClayBoots$Shire", "draws", "I", false), ("ClayBoots$Shire", "wet", "I", false), ("ClayBoots$Shire", "frost", "I", false), ("ClayBoots$Shire", "moved", "I", false), ("ClayBoots$Shire", "day", "I", false), ("ClayBoots$Shire", "fieldCount", "I", false), ("ClayBoots$Shire", "doorCount", "I", false), ("ClayBoots$Shire", "personCount", "I", false), ("ClayBoots$Shire", "clays", "[I", true), ("ClayBoots$Shire", "lands", "[I", true), ("ClayBoots$Shire", "stones", "[I", true), ("ClayBoots$Shire", "heaps", "[I", true), ("ClayBoots$Shire", "homes", "[I", true), ("ClayBoots$Shire", "sizes", "[I", true), ("ClayBoots$Shire", "heels", "[I", true), ("ClayBoots$Shire", "times", "[I", true), ("ClayBoots$Shire", "boots", "[I", true), ("ClayBoots$Shire", "book", "LClayBoots$Book;", true)],
  [("ClayBoots$Thoughts", "sums", "[I", true), ("ClayBoots$Thoughts", "gardens", "[I", true), ("ClayBoots$Thoughts", "wears", "LClayBoots$Told;", true), ("ClayBoots$Thoughts", "callers", "LClayBoots$Told;", true), ("ClayBoots$Thoughts", "worths", "LClayBoots$Told;", true), ("ClayBoots$Thoughts", "offers", "LClayBoots$Told;", true), ("ClayBoots$Thoughts", "worns", "LClayBoots$Told;", true), ("ClayBoots$Thoughts", "given", "[I", true), ("ClayBoots$Thoughts", "free", "[I", true), ("ClayBoots$Thoughts", "best", "[I", true), ("ClayBoots$Thoughts", "longs", "[I", true), ("ClayBoots$Thoughts", "ways", "[I", true)],
  [("ClayBoots$Told", "count", "I", false), ("ClayBoots$Told", "ones", "[I", true), ("ClayBoots$Told", "twos", "[I", true)],
  [("ClayBoots$Walk", "shire", "LClayBoots$Shire;", true), ("ClayBoots$Walk", "law", "LClayBoots$Law;", true), ("ClayBoots$Walk", "plans", "LClayBoots$Plans;", true), ("ClayBoots$Walk", "thought", "Z", true), ("ClayBoots$Walk", "facts", "[I", true), ("ClayBoots$Walk", "wiped", "I", false)],
  [("ClayBoots", "shire", "LClayBoots$Shire;", true), ("ClayBoots", "dreamt", "LClayBoots$Shire;", true), ("ClayBoots", "law", "LClayBoots$Law;", true), ("ClayBoots", "plans", "LClayBoots$Plans;", true), ("ClayBoots", "thoughts", "LClayBoots$Thoughts;", true), ("ClayBoots", "reader", "LClayBoots$Reader;", true), ("ClayBoots", "walk", "LClayBoots$Walk;", true), ("ClayBoots", "dream", "LClayBoots$Walk;", true), ("ClayBoots", "past", "LClayBoots$Past;", true), ("ClayBoots", "kept", "LClayBoots$Image;", true)],
  [("ClayBootsModel", "w", "[I", true), ("ClayBootsModel", "kept", "[I", true), ("ClayBootsModel", "back", "[I", true), ("ClayBootsModel", "lying", "[I", true), ("ClayBootsModel", "backMany", "I", false), ("ClayBootsModel", "hasImage", "Z", false), ("ClayBootsModel", "freshLine", "[I", true), ("ClayBootsModel", "freshStep", "[I", true), ("ClayBootsModel", "freshRow", "[I", true), ("ClayBootsModel", "tape", "[I", true), ("ClayBootsModel", "pile", "[I", true), ("ClayBootsModel", "facts", "[I", true), ("ClayBootsModel", "reading", "I", false), ("ClayBootsModel", "lines", "I", false), ("ClayBootsModel", "steps", "I", false), ("ClayBootsModel", "rows", "I", false), ("ClayBootsModel", "taped", "I", false), ("ClayBootsModel", "at", "I", false), ("ClayBootsModel", "token", "I", false), ("ClayBootsModel", "tokenAt", "I", false), ("ClayBootsModel", "value", "I", false), ("ClayBootsModel", "wrong", "I", false), ("ClayBootsModel", "wrongAt", "I", false), ("ClayBootsModel", "faultKind", "I", false), ("ClayBootsModel", "depth", "I", false), ("ClayBootsModel", "faultPlace", "I", false), ("ClayBootsModel", "isTrue", "Z", false), ("ClayBootsModel", "by", "[I", true), ("ClayBootsModel", "byMany", "I", false), ("ClayBootsModel", "wiped", "I", false), ("ClayBootsModel", "among", "[I", true), ("ClayBootsModel", "bestBy", "[I", true), ("ClayBootsModel", "mixed", "[J", true), ("ClayBootsModel", "freeAt", "[I", true), ("ClayBootsModel", "fairFrom", "[I", true), ("ClayBootsModel", "wayTo", "[I", true), ("ClayBootsModel", "rowTo", "[I", true), ("ClayBootsModel", "waysTo", "[I", true)]]
def qT (ci : Nat) : u_T := fun k => (qFT.getD ci []).getD k ("", "", "", false)
def qN (ci : Nat) : Nat := (qFT.getD ci []).length
def qty (ci : Nat) : Nat → FieldType := fun k => (parseFieldDescriptor (qT ci k).2.2.1).getD .int
def qcl : List vw_C := (List.range 12).map (fun ci => (qcn ci, qT ci, qN ci))
def qLW : List (List Nat) := [
  [157, 159],
  [563, 565, 567, 569, 571],
  [282, 284, 286, 288, 290, 292, 294, 296],
  [533, 535, 537],
  [334, 336, 338, 340, 342, 344, 346, 348, 350, 352, 354, 356],
  [463, 465, 467, 469, 471, 473, 475, 477, 479, 481, 483, 485, 487, 489, 491],
  [224, 226, 228, 230, 232, 234, 236, 238, 240, 242, 244, 246, 248, 250, 252, 254, 256, 258],
  [408, 410, 412, 414, 416, 418, 420, 422, 424, 426, 428, 430],
  [382, 384, 386],
  [507, 509, 511, 513, 515, 517],
  [584, 586, 588, 590, 592, 594, 596, 598, 600, 602],
  [1348, 1350, 1352, 1354, 1356, 1358, 1360, 1362, 1364, 1366, 1368, 1370, 1372, 1374, 1376, 1378, 1380, 1382, 1384, 1386, 1388, 1390, 1392, 1394, 1396, 1398, 1400, 1402, 1404, 1406, 1408, 1410, 1412, 1414, 1416, 1418, 1420, 1422]]
def qCOLS : List (List (Nat × Nat × List (Nat × Nat × Nat))) := [
  [(9, 0, []), (9, 0, []), (0, 10, [(3, 20, 0), (3, 20, 1), (3, 40, 0), (3, 50, 0), (3, 70, 0), (3, 3, 0), (3, 11, 0), (3, 11, 1), (3, 8, 0), (3, 10, 0)]), (0, 5, [(3, 20, 0), (3, 40, 1), (3, 50, 1), (2, 4, 0), (2, 5, 0), (2, 6, 0), (2, 7, 0), (0, 0, 0), (0, 0, 0), (0, 0, 0), (0, 0, 0), (0, 0, 0), (0, 0, 0), (0, 0, 0), (0, 0, 0)]), (1, 400, []), (1, 401, []), (1, 401, []), (1, 32, []), (0, 3, [(0, 0, 0), (0, 0, 0), (2, 9, 0)]), (4, 6, [(0, 20, 2)])],
  [(0, 1, [(1, 0, 0), (3, 20, 8), (3, 40, 2), (3, 50, 2), (3, 70, 1)]), (0, 9, [(2, 20, 0), (3, 40, 0), (3, 50, 0), (1, 0, 0), (2, 12, 0), (0, 0, 0)]), (1, 10, []), (9, 0, []), (9, 0, []), (9, 0, []), (9, 0, []), (9, 0, []), (9, 0, []), (9, 0, [])],
  [(0, 6, [(0, 0, 0), (0, 0, 0), (0, 0, 0), (0, 0, 0), (0, 0, 0), (0, 0, 0), (0, 0, 0), (0, 0, 0), (2, 21, 0), (2, 22, 0), (2, 23, 0), (2, 24, 0), (2, 25, 0), (2, 26, 0), (2, 27, 0), (2, 28, 0), (2, 29, 0), (2, 30, 0)]), (1, 10, []), (1, 10, []), (1, 8, []), (1, 80, []), (1, 12, []), (1, 12, []), (1, 12, []), (1, 12, []), (1, 120, [])],
  [(0, 0, [(0, 0, 0), (2, 31, 0)]), (1, 600, []), (9, 0, []), (9, 0, []), (9, 0, []), (9, 0, []), (9, 0, []), (9, 0, []), (9, 0, []), (9, 0, [])],
  [(0, 2, [(0, 0, 0), (0, 0, 0), (2, 42, 0), (2, 43, 0), (2, 44, 0), (2, 45, 0), (2, 46, 0), (2, 47, 0)]), (9, 0, []), (1, 16, []), (1, 16, []), (1, 16, []), (1, 16, []), (1, 400, []), (1, 32, []), (9, 0, []), (9, 0, [])],
  [(0, 4, [(0, 0, 0), (0, 0, 0), (0, 0, 0), (2, 53, 0), (2, 54, 0), (2, 55, 0), (2, 56, 0), (2, 57, 0), (2, 58, 0), (2, 59, 0), (2, 60, 0), (2, 61, 0)]), (9, 0, []), (9, 0, []), (1, 16, []), (1, 16, []), (1, 16, []), (1, 16, []), (1, 16, []), (1, 16, []), (1, 64, [])],
  [(1, 8, []), (2, 8, []), (9, 0, []), (9, 0, []), (9, 0, []), (9, 0, []), (9, 0, []), (9, 0, []), (9, 0, []), (9, 0, [])],
  [(0, 7, [(2, 71, 0), (2, 72, 0), (2, 80, 0), (2, 83, 0), (2, 86, 0), (2, 89, 0), (2, 92, 0), (2, 73, 0), (2, 74, 0), (2, 75, 0), (2, 76, 0), (2, 77, 0)]), (1, 6, []), (1, 8, []), (1, 31, []), (1, 4, []), (1, 20, []), (1, 12, []), (1, 12, []), (9, 0, []), (9, 0, [])],
  [(0, 8, [(0, 0, 0), (2, 81, 0), (2, 82, 0)]), (1, 10, []), (1, 10, []), (0, 8, [(0, 0, 0), (2, 84, 0), (2, 85, 0)]), (1, 10, []), (1, 10, []), (0, 8, [(0, 0, 0), (2, 87, 0), (2, 88, 0)]), (1, 20, []), (1, 20, []), (0, 8, [(0, 0, 0), (2, 90, 0), (2, 91, 0)])],
  [(1, 8, []), (1, 8, []), (0, 8, [(0, 0, 0), (2, 93, 0), (2, 94, 0)]), (1, 12, []), (1, 12, []), (9, 0, []), (9, 0, []), (9, 0, []), (9, 0, []), (9, 0, [])],
  [(0, 11, [(2, 101, 0), (2, 102, 0), (2, 103, 0), (2, 104, 0), (0, 0, 0), (1, 0, 0), (2, 105, 0), (2, 106, 0), (2, 107, 0), (2, 108, 0), (2, 109, 0), (2, 110, 0), (0, 0, 0), (0, 0, 0), (0, 0, 0), (0, 0, 0), (0, 0, 0), (0, 0, 0), (0, 0, 0), (0, 0, 0), (0, 0, 0), (0, 0, 0), (0, 0, 0), (0, 0, 0), (0, 0, 0), (0, 0, 0), (1, 0, 0), (2, 111, 0), (0, 0, 0), (0, 0, 0), (2, 112, 0), (2, 113, 0), (2, 114, 0), (2, 115, 0), (2, 116, 0), (2, 117, 0), (2, 118, 0), (2, 119, 0)]), (1, 2129, []), (1, 2129, []), (1, 1374, []), (1, 229, []), (1, 64, []), (1, 820, []), (1, 144, []), (1, 400, []), (1, 420, [])],
  [(1, 11, []), (1, 6, []), (1, 5, []), (1, 6, []), (3, 31, []), (1, 4, []), (1, 31, []), (1, 8, []), (1, 12, []), (1, 12, [])]]
def qcol (c : Nat) : Nat × Nat × List (Nat × Nat × Nat) := (qCOLS.getD (c / 10) []).getD (c % 10) (9, 0, [])
def qPAIRS : List (Nat × Nat) := [(2, 0), (3, 0), (4, 0), (5, 0), (6, 0), (7, 0), (8, 0), (9, 0), (10, 0), (11, 0), (11, 1), (12, 0), (12, 1), (20, 0), (20, 1), (20, 2), (20, 3), (20, 4), (20, 5), (20, 6), (20, 7), (20, 8), (21, 0), (21, 1), (21, 2), (21, 3), (21, 4), (21, 5), (21, 6), (21, 7), (21, 8), (22, 0), (22, 1), (22, 2), (22, 3), (22, 4), (22, 5), (22, 6), (22, 7), (22, 8), (23, 0), (23, 1), (23, 2), (23, 3), (23, 4), (23, 5), (23, 6), (23, 7), (23, 8), (24, 0), (24, 1), (24, 2), (24, 3), (24, 4), (24, 5), (24, 6), (24, 7), (24, 8), (25, 0), (25, 1), (25, 2), (25, 3), (25, 4), (25, 5), (25, 6), (25, 7), (25, 8), (26, 0), (26, 1), (26, 2), (26, 3), (26, 4), (26, 5), (26, 6), (26, 7), (26, 8), (27, 0), (27, 1), (27, 2), (27, 3), (27, 4), (27, 5), (27, 6), (27, 7), (27, 8), (28, 0), (28, 1), (28, 2), (28, 3), (28, 4), (28, 5), (28, 6), (28, 7), (28, 8), (29, 0), (29, 1), (29, 2), (29, 3), (29, 4), (29, 5), (29, 6), (29, 7), (29, 8), (30, 0), (30, 1), (30, 2), (30, 3), (30, 4), (30, 5), (30, 6), (30, 7), (30, 8), (31, 0), (31, 1), (31, 2), (31, 3), (31, 4), (31, 5), (31, 6), (31, 7), (31, 8), (40, 0), (40, 1), (40, 2), (42, 0), (42, 1), (42, 2), (43, 0), (43, 1), (43, 2), (44, 0), (44, 1), (44, 2), (45, 0), (45, 1), (45, 2), (46, 0), (46, 1), (46, 2), (47, 0), (47, 1), (47, 2), (50, 0), (50, 1), (50, 2), (53, 0), (53, 1), (53, 2), (54, 0), (54, 1), (54, 2), (55, 0), (55, 1), (55, 2), (56, 0), (56, 1), (56, 2), (57, 0), (57, 1), (57, 2), (58, 0), (58, 1), (58, 2), (59, 0), (59, 1), (59, 2), (60, 0), (60, 1), (60, 2), (61, 0), (61, 1), (61, 2), (70, 0), (70, 1), (71, 0), (71, 1), (72, 0), (72, 1), (73, 0), (73, 1), (74, 0), (74, 1), (75, 0), (75, 1), (76, 0), (76, 1), (77, 0), (77, 1), (80, 0), (80, 1), (81, 0), (81, 1), (82, 0), (82, 1), (83, 0), (83, 1), (84, 0), (84, 1), (85, 0), (85, 1), (86, 0), (86, 1), (87, 0), (87, 1), (88, 0), (88, 1), (89, 0), (89, 1), (90, 0), (90, 1), (91, 0), (91, 1), (92, 0), (92, 1), (93, 0), (93, 1), (94, 0), (94, 1), (100, 0), (101, 0), (102, 0), (103, 0), (104, 0), (105, 0), (106, 0), (107, 0), (108, 0), (109, 0), (110, 0), (111, 0), (112, 0), (113, 0), (114, 0), (115, 0), (116, 0), (117, 0), (118, 0), (119, 0)]
def qMT0 : List (Nat × String × String × Nat × Option FieldType × ByteArray) := [
  (0, "write", "(IIII)V", 6, none, prog_2_method_2_code),
  (0, "become", "(LClayBoots$Book;)V", 2, none, prog_2_method_3_code),
  (2, "become", "(LClayBoots$Law;)V", 2, none, prog_4_method_2_code),
  (2, "clear", "()V", 1, none, prog_4_method_3_code),
  (2, "emit", "(I)V", 2, none, prog_4_method_4_code),
  (2, "answer", "(I[I)I", 4, some .int, prog_4_method_5_code),
  (2, "reckon", "(II[I)I", 7, some .int, prog_4_method_6_code),
  (2, "joined", "(III)I", 3, some .int, prog_4_method_7_code),
  (3, "keep", "(LClayBoots$Shire;)V", 3, none, prog_5_method_2_code),
  (3, "bringBack", "(LClayBoots$Shire;)Z", 4, some .boolean, prog_5_method_3_code),
  (3, "forget", "()V", 1, none, prog_5_method_4_code),
  (4, "become", "(LClayBoots$Plans;)V", 2, none, prog_6_method_2_code),
  (4, "becomeCalls", "(LClayBoots$Plans;)V", 2, none, prog_6_method_3_code),
  (4, "becomeSky", "(LClayBoots$Plans;)V", 2, none, prog_6_method_4_code),
  (4, "becomeWays", "(LClayBoots$Plans;)V", 2, none, prog_6_method_5_code),
  (4, "clear", "()V", 2, none, prog_6_method_6_code),
  (4, "skyOf", "(LClayBoots$Shire;)V", 3, none, prog_6_method_7_code),
  (4, "addWay", "(III)V", 5, none, prog_6_method_8_code),
  (4, "wayBetween", "(II)I", 4, some .int, prog_6_method_9_code),
  (4, "leastSum", "(I)I", 2, some .int, prog_6_method_10_code),
  (4, "apart", "(III)I", 4, some .int, prog_6_method_11_code),
  (4, "spread", "(IIZ)I", 9, some .int, prog_6_method_12_code),
  (4, "nearest", "(I)I", 5, some .int, prog_6_method_13_code),
  (5, "take", "(I)V", 3, none, prog_7_method_2_code),
  (5, "read", "(I)I", 3, some .int, prog_7_method_3_code),
  (5, "findTokens", "()V", 3, none, prog_7_method_4_code),
  (5, "addToken", "(II)V", 3, none, prog_7_method_5_code),
  (5, "isLetter", "(I)Z", 1, some .boolean, prog_7_method_6_code),
  (5, "isDigit", "(I)Z", 1, some .boolean, prog_7_method_7_code),
  (5, "endOfLetters", "(I)I", 3, some .int, prog_7_method_8_code),
  (5, "endOfDigits", "(I)I", 3, some .int, prog_7_method_9_code),
  (5, "numberFrom", "(II)I", 5, some .int, prog_7_method_10_code),
  (5, "wordFrom", "(II)I", 6, some .int, prog_7_method_11_code),
  (5, "standsAt", "(III)Z", 6, some .boolean, prog_7_method_12_code),
  (5, "is", "(I)Z", 2, some .boolean, prog_7_method_13_code),
  (5, "isNumber", "()Z", 1, some .boolean, prog_7_method_14_code),
  (5, "step", "()V", 1, none, prog_7_method_15_code),
  (5, "blame", "(I)V", 2, none, prog_7_method_16_code),
  (5, "need", "(I)V", 2, none, prog_7_method_17_code),
  (5, "numberWithin", "(II)I", 4, some .int, prog_7_method_18_code)]
def qMT1 : List (Nat × String × String × Nat × Option FieldType × ByteArray) := [
  (5, "beginLine", "(ZI)V", 3, none, prog_7_method_19_code),
  (5, "lawLine", "(I)V", 3, none, prog_7_method_20_code),
  (5, "sum", "()V", 3, none, prog_7_method_21_code),
  (5, "product", "()V", 2, none, prog_7_method_22_code),
  (5, "operand", "()V", 1, none, prog_7_method_23_code),
  (5, "condition", "()V", 4, none, prog_7_method_24_code),
  (5, "await", "()V", 1, none, prog_7_method_25_code),
  (5, "closeAndJoin", "()Z", 2, some .boolean, prog_7_method_26_code),
  (5, "settle", "(I)V", 4, none, prog_7_method_27_code),
  (5, "callLine", "(I)V", 6, none, prog_7_method_28_code),
  (5, "fieldRow", "()I", 3, some .int, prog_7_method_29_code),
  (5, "skyLine", "(I)V", 4, none, prog_7_method_30_code),
  (5, "wayLine", "(I)V", 5, none, prog_7_method_31_code),
  (6, "become", "(LClayBoots$Shire;)V", 2, none, prog_8_method_2_code),
  (6, "becomeLand", "(LClayBoots$Shire;)V", 2, none, prog_8_method_3_code),
  (6, "hasField", "(I)Z", 2, some .boolean, prog_8_method_4_code),
  (6, "hasDoor", "(I)Z", 2, some .boolean, prog_8_method_5_code),
  (6, "hasPerson", "(I)Z", 2, some .boolean, prog_8_method_6_code),
  (6, "hasAll", "(III)Z", 4, some .boolean, prog_8_method_7_code),
  (6, "hasRow", "(I)Z", 3, some .boolean, prog_8_method_8_code),
  (6, "addField", "(II)I", 3, some .int, prog_8_method_9_code),
  (6, "addDoor", "(Z)I", 2, some .int, prog_8_method_10_code),
  (6, "addPerson", "(III)I", 4, some .int, prog_8_method_11_code),
  (6, "loadOf", "(I)I", 4, some .int, prog_8_method_12_code),
  (6, "loadOfAll", "()I", 3, some .int, prog_8_method_13_code),
  (6, "acresOf", "(I)I", 4, some .int, prog_8_method_14_code),
  (6, "holderOf", "(I)I", 5, some .int, prog_8_method_15_code),
  (6, "countyOf", "(I)I", 4, some .int, prog_8_method_16_code),
  (6, "heldFields", "()I", 3, some .int, prog_8_method_17_code),
  (6, "stoneDoors", "()I", 3, some .int, prog_8_method_18_code),
  (6, "returnLand", "(II)V", 3, none, prog_8_method_19_code),
  (7, "become", "(LClayBoots$Thoughts;)V", 2, none, prog_9_method_2_code),
  (7, "waysToGive", "(ILClayBoots$Shire;)I", 5, some .int, prog_9_method_3_code),
  (7, "giveOneMore", "(II)V", 7, none, prog_9_method_4_code),
  (7, "putBack", "(Z)I", 7, some .int, prog_9_method_5_code),
  (7, "ringFrom", "(I)I", 5, some .int, prog_9_method_6_code),
  (7, "nearestWear", "(II)I", 7, some .int, prog_9_method_7_code),
  (7, "closeWears", "(I)I", 6, some .int, prog_9_method_8_code),
  (7, "standInLine", "(IZ)I", 10, some .int, prog_9_method_9_code),
  (7, "nextCaller", "(I)I", 5, some .int, prog_9_method_10_code)]
def qMT2 : List (Nat × String × String × Nat × Option FieldType × ByteArray) := [
  (7, "freeFirst", "(I)I", 4, some .int, prog_9_method_11_code),
  (7, "bestDays", "(IZ)I", 8, some .int, prog_9_method_12_code),
  (7, "mostOffering", "(I)I", 4, some .int, prog_9_method_13_code),
  (7, "greatestOf", "(I)I", 4, some .int, prog_9_method_14_code),
  (7, "longestRow", "(Z)I", 5, some .int, prog_9_method_15_code),
  (7, "rowsEndingAt", "(I)V", 3, none, prog_9_method_16_code),
  (8, "add", "(II)I", 3, some .int, prog_10_method_2_code),
  (8, "clear", "()I", 1, some .int, prog_10_method_3_code),
  (8, "become", "(LClayBoots$Told;)V", 3, none, prog_10_method_4_code),
  (9, "asks", "(IIII)I", 6, some .int, prog_11_method_2_code),
  (9, "visit", "(III)I", 5, some .int, prog_11_method_3_code),
  (9, "takeUp", "(II)V", 5, none, prog_11_method_4_code),
  (9, "straysFrom", "(II)Z", 4, some .boolean, prog_11_method_5_code),
  (9, "nextDoor", "(I)I", 2, some .int, prog_11_method_6_code),
  (9, "leaveAt", "(II)I", 7, some .int, prog_11_method_7_code),
  (9, "passDay", "()I", 3, some .int, prog_11_method_8_code),
  (9, "dropAtHome", "(I)V", 6, none, prog_11_method_9_code),
  (9, "sweep", "(I)V", 4, none, prog_11_method_10_code),
  (10, "state", "(I)I", 3, some .int, prog_1_method_2_code),
  (10, "field", "(II)I", 3, some .int, prog_1_method_3_code),
  (10, "door", "(Z)I", 2, some .int, prog_1_method_4_code),
  (10, "person", "(III)I", 4, some .int, prog_1_method_5_code),
  (10, "set", "(III)Z", 4, some .boolean, prog_1_method_6_code),
  (10, "call", "(III)I", 4, some .int, prog_1_method_7_code),
  (10, "act", "(II)Z", 3, some .boolean, prog_1_method_8_code),
  (10, "canAct", "(II)Z", 3, some .boolean, prog_1_method_9_code),
  (10, "days", "(I)I", 4, some .int, prog_1_method_10_code),
  (10, "feed", "(IIIII)I", 6, some .int, prog_1_method_11_code),
  (10, "end", "(I)Z", 2, some .boolean, prog_1_method_12_code),
  (10, "text", "(I)I", 3, some .int, prog_1_method_13_code),
  (10, "fault", "(I)I", 2, some .int, prog_1_method_14_code),
  (10, "of", "(II)I", 3, some .int, prog_1_method_15_code),
  (10, "fieldOf", "(II)I", 3, some .int, prog_1_method_16_code),
  (10, "doorOf", "(II)I", 3, some .int, prog_1_method_17_code),
  (10, "tells", "(IIII)I", 5, some .int, prog_1_method_18_code),
  (10, "book", "(II)I", 3, some .int, prog_1_method_19_code),
  (10, "goes", "(II)I", 4, some .int, prog_1_method_20_code),
  (10, "would", "(IIII)I", 6, some .int, prog_1_method_21_code),
  (10, "many", "(IIII)I", 6, some .int, prog_1_method_22_code),
  (10, "order", "(IIII)I", 12, some .int, prog_1_method_23_code)]
def qMT3 : List (Nat × String × String × Nat × Option FieldType × ByteArray) := [
  (10, "orderedRow", "(II)I", 8, some .int, prog_1_method_24_code),
  (10, "factorial", "(I)I", 3, some .int, prog_1_method_25_code),
  (10, "bitAt", "(II)I", 4, some .int, prog_1_method_26_code),
  (10, "fieldInRow", "(II)I", 4, some .int, prog_1_method_27_code),
  (10, "clay", "(II)Z", 3, some .boolean, prog_1_method_28_code),
  (10, "mix", "(I)I", 5, some .int, prog_1_method_29_code),
  (10, "garden", "(II)Z", 3, some .boolean, prog_1_method_30_code),
  (10, "back", "(I)I", 2, some .int, prog_1_method_31_code),
  (10, "wear", "(II)I", 4, some .int, prog_1_method_32_code),
  (10, "whose", "(II)I", 4, some .int, prog_1_method_33_code),
  (10, "couples", "(I)I", 2, some .int, prog_1_method_34_code),
  (10, "caller", "(II)I", 4, some .int, prog_1_method_35_code),
  (10, "line", "(II)I", 3, some .int, prog_1_method_36_code),
  (10, "worth", "(I)I", 2, some .int, prog_1_method_37_code),
  (10, "fair", "(II)I", 3, some .int, prog_1_method_38_code),
  (10, "offer", "(II)I", 4, some .int, prog_1_method_39_code),
  (10, "widow", "(I)I", 3, some .int, prog_1_method_40_code),
  (10, "span", "(II)I", 3, some .int, prog_1_method_41_code),
  (10, "later", "(I)I", 6, some .int, prog_1_method_42_code),
  (10, "first", "(II)I", 5, some .int, prog_1_method_43_code),
  (10, "worn", "(I)I", 2, some .int, prog_1_method_44_code),
  (10, "row", "(I)I", 2, some .int, prog_1_method_45_code),
  (10, "game", "(I)I", 7, some .int, prog_1_method_46_code),
  (10, "undo", "()Z", 1, some .boolean, prog_1_method_47_code),
  (10, "image", "(Z)Z", 2, some .boolean, prog_1_method_48_code),
  (10, "look", "(I)I", 2, some .int, prog_1_method_49_code),
  (10, "within", "(III)Z", 3, some .boolean, prog_1_method_50_code),
  (10, "afterDraw", "(I)I", 1, some .int, prog_1_method_51_code),
  (10, "drawn", "(II)I", 2, some .int, prog_1_method_52_code),
  (10, "unitOf", "(I)I", 3, some .int, prog_1_method_53_code),
  (11, "layNone", "([I)V", 2, none, prog_13_method_2_code),
  (11, "isIn", "(III)Z", 3, some .boolean, prog_13_method_3_code),
  (11, "lesser", "(II)I", 2, some .int, prog_13_method_4_code),
  (11, "greater", "(II)I", 2, some .int, prog_13_method_5_code),
  (11, "apartBy", "(II)I", 2, some .int, prog_13_method_6_code),
  (11, "isField", "(I)Z", 2, some .boolean, prog_13_method_7_code),
  (11, "isDoor", "(I)Z", 2, some .boolean, prog_13_method_8_code),
  (11, "isPerson", "(I)Z", 2, some .boolean, prog_13_method_9_code),
  (11, "isStone", "(I)Z", 2, some .boolean, prog_13_method_10_code),
  (11, "forgets", "()V", 1, none, prog_13_method_11_code)]
def qMT4 : List (Nat × String × String × Nat × Option FieldType × ByteArray) := [
  (11, "state", "(I)I", 3, some .int, prog_13_method_12_code),
  (11, "draw", "(I)I", 2, some .int, prog_13_method_13_code),
  (11, "field", "(II)I", 3, some .int, prog_13_method_14_code),
  (11, "door", "(Z)I", 2, some .int, prog_13_method_15_code),
  (11, "person", "(III)I", 5, some .int, prog_13_method_16_code),
  (11, "set", "(III)Z", 5, some .boolean, prog_13_method_17_code),
  (11, "feed", "(IIIII)I", 8, some .int, prog_13_method_18_code),
  (11, "end", "(I)Z", 2, some .boolean, prog_13_method_19_code),
  (11, "see", "(I)I", 2, some .int, prog_13_method_20_code),
  (11, "isLetter", "(I)Z", 1, some .boolean, prog_13_method_21_code),
  (11, "isDigit", "(I)Z", 1, some .boolean, prog_13_method_22_code),
  (11, "is", "(Ljava/lang/String;)Z", 4, some .boolean, prog_13_method_23_code),
  (11, "asked", "()I", 1, some .int, prog_13_method_24_code),
  (11, "lawWord", "()I", 1, some .int, prog_13_method_25_code),
  (11, "word", "()I", 1, some .int, prog_13_method_26_code),
  (11, "next0", "()V", 3, none, prog_13_method_27_code),
  (11, "bad", "(I)Z", 2, some .boolean, prog_13_method_28_code),
  (11, "need", "(I)Z", 2, some .boolean, prog_13_method_29_code),
  (11, "lay", "(II)V", 3, none, prog_13_method_30_code),
  (11, "opens", "()Z", 1, some .boolean, prog_13_method_31_code),
  (11, "sumUp", "()Z", 2, some .boolean, prog_13_method_32_code),
  (11, "product", "()Z", 3, some .boolean, prog_13_method_33_code),
  (11, "unit", "()Z", 2, some .boolean, prog_13_method_34_code),
  (11, "any", "()Z", 1, some .boolean, prog_13_method_35_code),
  (11, "every", "()Z", 1, some .boolean, prog_13_method_36_code),
  (11, "oneTest", "()Z", 2, some .boolean, prog_13_method_37_code),
  (11, "aLine", "()Z", 1, some .boolean, prog_13_method_38_code),
  (11, "readsLaw", "()Z", 2, some .boolean, prog_13_method_39_code),
  (11, "number", "(III)Z", 4, some .boolean, prog_13_method_40_code),
  (11, "told", "(IIII)Z", 5, some .boolean, prog_13_method_41_code),
  (11, "fieldsGoOn", "(I)Z", 4, some .boolean, prog_13_method_42_code),
  (11, "aCall", "()Z", 2, some .boolean, prog_13_method_43_code),
  (11, "aSky", "()Z", 2, some .boolean, prog_13_method_44_code),
  (11, "laysWay", "(III)V", 4, none, prog_13_method_45_code),
  (11, "aWay", "()Z", 1, some .boolean, prog_13_method_46_code),
  (11, "aRow", "()Z", 1, some .boolean, prog_13_method_47_code),
  (11, "readsRows", "()Z", 2, some .boolean, prog_13_method_48_code),
  (11, "putsLaw", "()I", 2, some .int, prog_13_method_49_code),
  (11, "puts", "(III)I", 5, some .int, prog_13_method_50_code),
  (11, "putsText", "(I)I", 2, some .int, prog_13_method_51_code)]
def qMT5 : List (Nat × String × String × Nat × Option FieldType × ByteArray) := [
  (11, "text", "(I)I", 3, some .int, prog_13_method_52_code),
  (11, "fault", "(I)I", 2, some .int, prog_13_method_53_code),
  (11, "both", "(III)I", 3, some .int, prog_13_method_54_code),
  (11, "comesTo", "(III)I", 8, some .int, prog_13_method_55_code),
  (11, "isSo", "(I)Z", 2, some .boolean, prog_13_method_56_code),
  (11, "says", "(III)I", 6, some .int, prog_13_method_57_code),
  (11, "load", "(I)I", 4, some .int, prog_13_method_58_code),
  (11, "asks", "(III)V", 4, none, prog_13_method_59_code),
  (11, "takesOf", "(II)I", 3, some .int, prog_13_method_60_code),
  (11, "leavesOf", "(III)I", 4, some .int, prog_13_method_61_code),
  (11, "straysOf", "(II)I", 3, some .int, prog_13_method_62_code),
  (11, "keeps", "()V", 2, none, prog_13_method_63_code),
  (11, "undo", "()Z", 2, some .boolean, prog_13_method_64_code),
  (11, "notes", "(III)V", 5, none, prog_13_method_65_code),
  (11, "goesBy", "(II)V", 4, none, prog_13_method_66_code),
  (11, "wipes", "(II)I", 7, some .int, prog_13_method_67_code),
  (11, "calls", "(II)I", 5, some .int, prog_13_method_68_code),
  (11, "laysFields", "(I)Z", 4, some .boolean, prog_13_method_69_code),
  (11, "call", "(III)I", 4, some .int, prog_13_method_70_code),
  (11, "toLand", "(II)V", 3, none, prog_13_method_71_code),
  (11, "sweeps", "(I)V", 4, none, prog_13_method_72_code),
  (11, "canAct", "(II)Z", 3, some .boolean, prog_13_method_73_code),
  (11, "act", "(II)Z", 3, some .boolean, prog_13_method_74_code),
  (11, "isSky", "(I)V", 2, none, prog_13_method_75_code),
  (11, "fallsAtHome", "(I)V", 5, none, prog_13_method_76_code),
  (11, "laysCall", "(I)V", 3, none, prog_13_method_77_code),
  (11, "aDay", "()I", 4, some .int, prog_13_method_78_code),
  (11, "days", "(I)I", 4, some .int, prog_13_method_79_code),
  (11, "of", "(II)I", 3, some .int, prog_13_method_80_code),
  (11, "holder", "(I)I", 4, some .int, prog_13_method_81_code),
  (11, "fieldOf", "(II)I", 3, some .int, prog_13_method_82_code),
  (11, "acres", "(I)I", 4, some .int, prog_13_method_83_code),
  (11, "county", "(I)I", 4, some .int, prog_13_method_84_code),
  (11, "doorOf", "(II)I", 3, some .int, prog_13_method_85_code),
  (11, "tells", "(IIII)I", 5, some .int, prog_13_method_86_code),
  (11, "book", "(II)I", 3, some .int, prog_13_method_87_code),
  (11, "lays", "()V", 2, none, prog_13_method_88_code),
  (11, "putsBack", "()V", 2, none, prog_13_method_89_code),
  (11, "goes", "(II)I", 5, some .int, prog_13_method_90_code),
  (11, "are", "(III)Z", 4, some .boolean, prog_13_method_91_code)]
def qMT6 : List (Nat × String × String × Nat × Option FieldType × ByteArray) := [
  (11, "would", "(IIII)I", 6, some .int, prog_13_method_92_code),
  (11, "many", "(IIII)I", 6, some .int, prog_13_method_93_code),
  (11, "laysOrder", "(II)Z", 6, some .boolean, prog_13_method_94_code),
  (11, "order", "(IIII)I", 11, some .int, prog_13_method_95_code),
  (11, "clay", "(II)Z", 3, some .boolean, prog_13_method_96_code),
  (11, "mixOf", "(I)J", 5, some .long, prog_13_method_97_code),
  (11, "mix", "(I)I", 5, some .int, prog_13_method_98_code),
  (11, "garden", "(II)Z", 3, some .boolean, prog_13_method_99_code),
  (11, "back", "(I)I", 9, some .int, prog_13_method_100_code),
  (11, "wear", "(II)I", 3, some .int, prog_13_method_101_code),
  (11, "wornFrom", "(III)I", 4, some .int, prog_13_method_102_code),
  (11, "whose", "(II)I", 5, some .int, prog_13_method_103_code),
  (11, "couples", "(I)I", 5, some .int, prog_13_method_104_code),
  (11, "caller", "(II)I", 3, some .int, prog_13_method_105_code),
  (11, "scrapes", "(II)I", 5, some .int, prog_13_method_106_code),
  (11, "line", "(II)I", 8, some .int, prog_13_method_107_code),
  (11, "worth", "(I)I", 2, some .int, prog_13_method_108_code),
  (11, "laysFair", "(I)V", 3, none, prog_13_method_109_code),
  (11, "fair", "(II)I", 4, some .int, prog_13_method_110_code),
  (11, "offer", "(II)I", 3, some .int, prog_13_method_111_code),
  (11, "greatestOf", "(I)I", 4, some .int, prog_13_method_112_code),
  (11, "widow", "(I)I", 5, some .int, prog_13_method_113_code),
  (11, "long0", "(II)I", 3, some .int, prog_13_method_114_code),
  (11, "spans", "()I", 8, some .int, prog_13_method_115_code),
  (11, "shortest", "(II)I", 6, some .int, prog_13_method_116_code),
  (11, "span", "(II)I", 3, some .int, prog_13_method_117_code),
  (11, "later", "(I)I", 6, some .int, prog_13_method_118_code),
  (11, "first", "(II)I", 6, some .int, prog_13_method_119_code),
  (11, "worn", "(I)I", 2, some .int, prog_13_method_120_code),
  (11, "laysRows", "()V", 3, none, prog_13_method_121_code),
  (11, "row", "(I)I", 5, some .int, prog_13_method_122_code),
  (11, "game", "(I)I", 6, some .int, prog_13_method_123_code),
  (11, "image", "(Z)Z", 3, some .boolean, prog_13_method_124_code),
  (11, "look", "(I)I", 2, some .int, prog_13_method_125_code),
  (13, "bitCount", "(I)I", 1, some .int, prog_14_method_49_code),
  (14, "charAt", "(I)C", 2, some .char, prog_16_method_56_code),
  (14, "length", "()I", 1, some .int, prog_16_method_54_code)]
def qMTs : List (List (Nat × String × String × Nat × Option FieldType × ByteArray)) := [qMT0, qMT1, qMT2, qMT3, qMT4, qMT5, qMT6]
def qmt (m : Nat) : Nat × String × String × Nat × Option FieldType × ByteArray := (qMTs.getD (m / 40) []).getD (m % 40) (0, "", "", 0, none, ⟨#[]⟩)
def qow (m : Nat) : Nat := (qmt m).1
def qyn (m : Nat) : MethodName := ⟨qcn (qmt m).1, (qmt m).2.1, (qmt m).2.2.1⟩
def qml (m : Nat) : Nat := (qmt m).2.2.2.1
def qrt (m : Nat) : Option FieldType := (qmt m).2.2.2.2.1
def qbt (m : Nat) : ByteArray := (qmt m).2.2.2.2.2
def qNM : Nat := 277
def qMWs : List (List (Bool × Nat × Nat × Nat × Nat × Nat)) := [
  [(false, 4, 748, 746, 747, 116), (false, 1, 686, 684, 685, 116), (false, 1, 987, 985, 986, 117), (false, 0, 894, 892, 893, 117), (false, 1, 934, 932, 933, 117), (false, 2, 715, 713, 714, 117), (false, 3, 719, 718, 1, 117), (true, 3, 722, 721, 0, 117), (false, 1, 671, 669, 670, 124), (false, 1, 1270, 1268, 1269, 124), (false, 0, 612, 610, 611, 124), (false, 1, 1279, 1277, 1278, 118), (false, 1, 992, 990, 991, 118), (false, 1, 997, 995, 996, 118), (false, 1, 1001, 999, 1000, 118), (false, 0, 898, 896, 897, 118), (false, 1, 782, 780, 781, 118), (false, 3, 982, 980, 981, 118), (false, 2, 1034, 1032, 1033, 118), (false, 1, 1217, 1215, 1216, 118), (false, 3, 1231, 1229, 1230, 118), (false, 3, 1221, 1220, 37, 118), (false, 1, 1226, 1225, 38, 118), (false, 1, 795, 793, 794, 122), (false, 1, 807, 805, 806, 122), (false, 0, 811, 810, 7, 122), (false, 2, 879, 878, 11, 122), (true, 1, 814, 813, 0, 122), (true, 1, 882, 881, 0, 122), (false, 1, 818, 817, 8, 122), (false, 1, 886, 885, 12, 122), (false, 2, 890, 889, 13, 122), (false, 2, 822, 821, 9, 122), (false, 3, 875, 874, 10, 122), (false, 1, 902, 901, 14, 122), (false, 0, 942, 941, 23, 122), (false, 0, 918, 917, 18, 122), (false, 1, 914, 913, 17, 122), (false, 1, 962, 961, 28, 122), (false, 2, 938, 937, 22, 122)],
  [(false, 2, 910, 909, 16, 122), (false, 1, 906, 905, 15, 122), (false, 0, 922, 921, 19, 122), (false, 0, 926, 925, 20, 122), (false, 0, 930, 929, 21, 122), (false, 0, 946, 945, 24, 122), (false, 0, 950, 949, 25, 122), (false, 0, 954, 953, 26, 122), (false, 1, 958, 957, 27, 122), (false, 1, 966, 965, 29, 122), (false, 0, 970, 969, 30, 122), (false, 1, 974, 973, 31, 122), (false, 1, 978, 977, 32, 122), (false, 1, 675, 673, 674, 115), (false, 1, 679, 677, 678, 115), (false, 1, 651, 649, 650, 115), (false, 1, 639, 637, 638, 115), (false, 1, 655, 653, 654, 115), (false, 3, 1064, 1062, 1063, 115), (false, 1, 663, 661, 662, 115), (false, 2, 623, 621, 622, 115), (false, 1, 631, 629, 630, 115), (false, 3, 643, 641, 642, 115), (false, 1, 706, 704, 705, 115), (false, 0, 1051, 1049, 1050, 115), (false, 1, 764, 762, 763, 115), (false, 1, 1020, 1018, 1019, 115), (false, 1, 1029, 1027, 1028, 115), (false, 0, 1056, 1054, 1055, 115), (false, 0, 1300, 1298, 1299, 115), (false, 2, 769, 767, 768, 115), (false, 1, 1286, 1284, 1285, 119), (false, 2, 1104, 1102, 1103, 119), (false, 2, 1110, 1109, 33, 119), (false, 1, 1124, 1122, 1123, 119), (false, 1, 1128, 1127, 34, 119), (false, 2, 1148, 1146, 1147, 119), (false, 1, 1160, 1158, 1159, 119), (false, 2, 1172, 1170, 1171, 119), (false, 1, 1176, 1175, 35, 119)],
  [(false, 1, 1180, 1179, 36, 119), (false, 2, 1192, 1190, 1191, 119), (false, 1, 1204, 1202, 1203, 119), (false, 1, 1208, 1206, 1207, 119), (false, 1, 1254, 1252, 1253, 119), (false, 1, 1258, 1257, 39, 119), (false, 2, 1140, 1138, 1139, 120), (false, 0, 1136, 1134, 1135, 120), (false, 1, 1291, 1289, 1290, 120), (false, 4, 711, 709, 710, 123), (false, 3, 694, 692, 693, 123), (false, 2, 701, 700, 0, 123), (false, 2, 728, 727, 2, 123), (false, 1, 740, 739, 3, 123), (false, 2, 744, 743, 4, 123), (false, 0, 778, 776, 777, 123), (false, 1, 787, 786, 6, 123), (false, 1, 760, 758, 759, 123), (false, 1, 608, 606, 607, 114), (false, 2, 616, 614, 615, 114), (false, 1, 627, 625, 626, 114), (false, 3, 635, 633, 634, 114), (false, 3, 647, 645, 646, 114), (false, 3, 659, 657, 658, 114), (false, 2, 752, 750, 751, 114), (false, 2, 756, 755, 5, 114), (false, 1, 774, 772, 773, 114), (false, 5, 791, 789, 790, 114), (false, 1, 799, 797, 798, 114), (false, 1, 803, 801, 802, 114), (false, 1, 1006, 1004, 1005, 114), (false, 2, 1010, 1008, 1009, 114), (false, 2, 1016, 1014, 1015, 114), (false, 2, 1024, 1022, 1023, 114), (false, 4, 1038, 1036, 1037, 114), (false, 2, 1042, 1040, 1041, 114), (false, 2, 1046, 1044, 1045, 114), (false, 4, 1060, 1058, 1059, 114), (false, 4, 1068, 1066, 1067, 114), (false, 4, 1072, 1070, 1071, 114)],
  [(true, 2, 1084, 1083, 0, 114), (true, 1, 1081, 1080, 0, 114), (true, 2, 1088, 1087, 0, 114), (true, 2, 1091, 1090, 0, 114), (false, 2, 1096, 1094, 1095, 114), (false, 1, 1100, 1098, 1099, 114), (false, 2, 1116, 1114, 1115, 114), (false, 1, 1120, 1118, 1119, 114), (false, 2, 1132, 1130, 1131, 114), (false, 2, 1144, 1142, 1143, 114), (false, 1, 1156, 1154, 1155, 114), (false, 2, 1164, 1162, 1163, 114), (false, 2, 1168, 1166, 1167, 114), (false, 1, 1184, 1182, 1183, 114), (false, 2, 1188, 1186, 1187, 114), (false, 2, 1196, 1194, 1195, 114), (false, 1, 1200, 1198, 1199, 114), (false, 2, 1213, 1211, 1212, 114), (false, 1, 1235, 1233, 1234, 114), (false, 2, 1240, 1238, 1239, 114), (false, 1, 1246, 1244, 1245, 114), (false, 1, 1250, 1248, 1249, 114), (false, 1, 1262, 1260, 1261, 114), (false, 0, 1266, 1264, 1265, 114), (false, 1, 1274, 1272, 1273, 114), (false, 1, 1296, 1294, 1295, 114), (true, 3, 619, 618, 0, 114), (true, 1, 731, 730, 0, 114), (true, 2, 736, 735, 0, 114), (true, 1, 666, 665, 0, 114), (true, 1, 1309, 1308, 0, 126), (true, 3, 1440, 1439, 0, 126), (true, 2, 1618, 1617, 0, 126), (true, 2, 1688, 1687, 0, 126), (true, 2, 1850, 1849, 0, 126), (false, 1, 1460, 1459, 42, 126), (false, 1, 1452, 1451, 41, 126), (false, 1, 1464, 1463, 43, 126), (false, 1, 1696, 1695, 85, 126), (false, 0, 1433, 1432, 40, 126)],
  [(false, 1, 1429, 1427, 1428, 126), (false, 1, 1700, 1699, 86, 126), (false, 2, 1437, 1435, 1436, 126), (false, 1, 1444, 1442, 1443, 126), (false, 3, 1448, 1446, 1447, 126), (false, 3, 1456, 1454, 1455, 126), (false, 5, 1468, 1466, 1467, 126), (false, 1, 1472, 1470, 1471, 126), (false, 1, 1484, 1483, 45, 126), (true, 1, 1487, 1486, 0, 126), (true, 1, 1531, 1530, 0, 126), (false, 1, 1500, 1499, 48, 126), (false, 0, 1512, 1511, 49, 126), (false, 0, 1495, 1494, 47, 126), (false, 0, 1491, 1490, 46, 126), (false, 0, 1480, 1479, 44, 126), (false, 1, 1543, 1542, 52, 126), (false, 1, 1579, 1578, 61, 126), (false, 2, 1559, 1558, 56, 126), (false, 0, 1575, 1574, 60, 126), (false, 0, 1547, 1546, 53, 126), (false, 0, 1551, 1550, 54, 126), (false, 0, 1555, 1554, 55, 126), (false, 0, 1563, 1562, 57, 126), (false, 0, 1567, 1566, 58, 126), (false, 0, 1571, 1570, 59, 126), (false, 0, 1539, 1538, 51, 126), (false, 0, 1535, 1534, 50, 126), (false, 3, 1599, 1598, 66, 126), (false, 4, 1595, 1594, 65, 126), (false, 1, 1603, 1602, 67, 126), (false, 0, 1591, 1590, 64, 126), (false, 0, 1607, 1606, 68, 126), (false, 3, 1615, 1614, 70, 126), (false, 0, 1611, 1610, 69, 126), (false, 0, 1587, 1586, 63, 126), (false, 0, 1583, 1582, 62, 126), (false, 0, 1626, 1625, 72, 126), (false, 3, 1630, 1629, 73, 126), (false, 1, 1622, 1621, 71, 126)],
  [(false, 1, 1476, 1474, 1475, 126), (false, 1, 1634, 1632, 1633, 126), (true, 3, 1685, 1684, 0, 126), (false, 3, 1682, 1681, 83, 126), (false, 1, 1678, 1677, 82, 126), (false, 3, 1674, 1673, 81, 126), (false, 1, 1670, 1669, 80, 126), (false, 3, 1666, 1665, 79, 126), (false, 2, 1662, 1661, 78, 126), (false, 3, 1714, 1713, 89, 126), (false, 2, 1692, 1691, 84, 126), (false, 0, 1650, 1649, 75, 126), (false, 0, 1638, 1636, 1637, 126), (false, 3, 1706, 1705, 87, 126), (false, 2, 1658, 1657, 77, 126), (false, 2, 1710, 1709, 88, 126), (false, 2, 1654, 1653, 76, 126), (false, 1, 1646, 1645, 74, 126), (false, 3, 1642, 1640, 1641, 126), (false, 2, 1730, 1729, 92, 126), (false, 1, 1726, 1725, 91, 126), (false, 2, 1722, 1721, 90, 126), (false, 2, 1718, 1716, 1717, 126), (false, 1, 1742, 1741, 94, 126), (false, 1, 1750, 1749, 96, 126), (false, 1, 1746, 1745, 95, 126), (false, 0, 1738, 1737, 93, 126), (false, 1, 1734, 1732, 1733, 126), (false, 2, 1754, 1752, 1753, 126), (false, 1, 1762, 1761, 97, 126), (false, 2, 1758, 1756, 1757, 126), (false, 1, 1770, 1769, 98, 126), (false, 1, 1774, 1773, 99, 126), (false, 2, 1766, 1764, 1765, 126), (false, 4, 1778, 1776, 1777, 126), (false, 2, 1782, 1780, 1781, 126), (false, 0, 1790, 1789, 100, 126), (false, 0, 1794, 1793, 101, 126), (false, 2, 1786, 1784, 1785, 126), (false, 3, 1802, 1801, 102, 126)],
  [(false, 4, 1798, 1796, 1797, 126), (false, 4, 1806, 1804, 1805, 126), (false, 2, 1814, 1813, 103, 126), (false, 4, 1810, 1808, 1809, 126), (false, 2, 1818, 1816, 1817, 126), (false, 1, 1826, 1825, 104, 126), (false, 1, 1822, 1820, 1821, 126), (false, 2, 1831, 1829, 1830, 126), (false, 1, 1835, 1833, 1834, 126), (false, 2, 1839, 1837, 1838, 126), (false, 3, 1847, 1846, 105, 126), (false, 2, 1843, 1841, 1842, 126), (false, 1, 1854, 1852, 1853, 126), (false, 2, 1858, 1856, 1857, 126), (false, 2, 1866, 1865, 106, 126), (false, 2, 1862, 1860, 1861, 126), (false, 1, 1870, 1868, 1869, 126), (false, 1, 1878, 1877, 107, 126), (false, 2, 1874, 1872, 1873, 126), (false, 2, 1882, 1880, 1881, 126), (false, 1, 1890, 1889, 108, 126), (false, 1, 1886, 1884, 1885, 126), (false, 2, 1903, 1902, 110, 126), (false, 0, 1898, 1897, 109, 126), (false, 2, 1907, 1906, 111, 126), (false, 2, 1894, 1892, 1893, 126), (false, 1, 1911, 1909, 1910, 126), (false, 2, 1916, 1914, 1915, 126), (false, 1, 1920, 1918, 1919, 126), (false, 0, 1928, 1927, 112, 126), (false, 1, 1924, 1922, 1923, 126), (false, 1, 1932, 1930, 1931, 126), (false, 1, 1936, 1934, 1935, 126), (false, 1, 1940, 1938, 1939, 126), (true, 1, 1075, 1074, 0, 132), (false, 1, 837, 835, 836, 128), (false, 0, 827, 825, 826, 128)]]
def qmw (m : Nat) : Bool × Nat × Nat × Nat × Nat × Nat := (qMWs.getD (m / 40) []).getD (m % 40) (false, 0, 0, 0, 0, 0)
def qFL : List (List (Nat × Nat × Nat × Nat)) := [
  [(9, 0, 1, 155), (15, 0, 0, 153)],
  [],
  [(9, 2, 2, 272), (15, 2, 3, 274), (18, 2, 4, 276), (21, 2, 5, 278), (24, 2, 6, 280), (27, 2, 7, 281), (30, 2, 0, 267), (34, 2, 1, 270)],
  [(11, 3, 2, 532), (18, 3, 1, 531), (26, 3, 0, 529)],
  [(9, 4, 3, 315), (15, 4, 4, 318), (18, 4, 5, 321), (21, 4, 6, 324), (24, 4, 7, 327), (27, 4, 8, 329), (30, 4, 9, 331), (33, 4, 10, 332), (36, 4, 11, 333), (50, 4, 0, 305), (60, 4, 1, 309), (63, 4, 2, 312), (66, 6, 4, 179), (71, 6, 1, 169), (74, 6, 2, 172)],
  [(12, 5, 1, 444), (21, 5, 2, 446), (25, 5, 3, 448), (29, 5, 4, 449), (32, 5, 5, 450), (35, 5, 6, 451), (38, 5, 14, 461), (42, 5, 0, 443), (46, 5, 7, 452), (49, 5, 13, 459), (76, 5, 8, 454), (103, 5, 9, 455), (106, 5, 10, 456), (139, 2, 2, 273), (142, 2, 3, 275), (145, 2, 1, 271), (150, 2, 4, 277), (156, 2, 5, 279), (162, 2, 0, 268), (177, 5, 11, 457), (180, 5, 12, 458), (192, 6, 7, 191), (200, 6, 6, 187), (203, 4, 3, 317), (206, 4, 4, 320), (209, 4, 5, 323), (212, 4, 6, 326), (215, 4, 0, 307), (218, 6, 5, 184), (221, 4, 7, 328), (224, 4, 8, 330), (227, 4, 1, 310), (234, 4, 2, 313)],
  [(9, 6, 8, 192), (15, 6, 9, 196), (18, 6, 10, 200), (21, 6, 11, 203), (24, 6, 12, 206), (27, 6, 13, 209), (30, 6, 14, 212), (33, 6, 15, 215), (36, 6, 16, 218), (42, 6, 17, 221), (54, 6, 0, 164), (58, 6, 1, 167), (61, 6, 2, 171), (64, 6, 3, 174), (67, 6, 4, 178), (70, 6, 5, 182), (73, 6, 6, 185), (76, 6, 7, 188)],
  [(9, 7, 0, 389), (15, 7, 1, 391), (23, 7, 2, 393), (27, 7, 3, 395), (30, 7, 4, 397), (33, 7, 5, 399), (36, 7, 6, 401), (39, 7, 7, 403), (42, 7, 8, 404), (45, 7, 9, 405), (48, 7, 10, 406), (51, 7, 11, 407), (73, 6, 5, 183), (79, 6, 8, 194), (82, 6, 9, 198), (96, 8, 0, 376), (99, 8, 1, 379), (105, 8, 2, 381)],
  [(15, 8, 1, 378), (21, 8, 2, 380), (24, 8, 0, 375)],
  [(9, 9, 4, 504), (15, 9, 0, 500), (19, 9, 1, 501), (23, 9, 2, 502), (27, 9, 3, 503), (37, 6, 13, 210), (40, 6, 14, 213), (46, 6, 8, 193), (49, 6, 9, 197), (56, 6, 1, 166), (60, 6, 2, 170), (66, 6, 10, 201), (69, 6, 15, 216), (72, 6, 4, 177), (104, 9, 5, 505), (110, 6, 17, 222), (124, 6, 16, 219), (127, 6, 0, 165), (136, 6, 11, 204), (139, 6, 3, 175), (148, 4, 0, 306), (151, 4, 3, 316), (154, 4, 4, 319), (157, 4, 5, 322), (160, 4, 6, 325), (167, 6, 7, 190), (174, 6, 12, 207)],
  [(12, 10, 0, 574), (16, 10, 1, 575), (22, 10, 2, 576), (29, 10, 3, 577), (36, 10, 4, 578), (45, 10, 5, 579), (54, 10, 6, 580), (58, 10, 7, 581), (64, 10, 8, 582), (71, 10, 9, 583), (75, 6, 0, 163), (86, 6, 5, 181), (93, 6, 6, 186), (104, 6, 7, 189), (111, 6, 1, 168), (117, 6, 9, 199), (124, 6, 14, 214), (144, 6, 10, 202), (147, 6, 2, 173), (150, 6, 4, 180), (157, 5, 7, 453), (167, 5, 1, 445), (172, 5, 2, 447), (183, 5, 13, 460), (186, 5, 14, 462), (189, 6, 12, 208), (192, 6, 13, 211), (195, 6, 15, 217), (201, 6, 16, 220), (208, 6, 8, 195), (220, 6, 11, 205), (226, 6, 17, 223), (230, 0, 0, 154), (235, 0, 1, 156), (241, 6, 3, 176), (253, 9, 5, 506), (281, 7, 0, 390), (290, 7, 1, 392), (296, 7, 2, 394), (314, 7, 3, 396), (321, 7, 4, 398), (327, 7, 5, 400), (330, 8, 0, 377), (354, 7, 6, 402), (364, 1, 0, 554), (368, 1, 1, 556), (371, 1, 2, 558), (372, 1, 3, 560), (375, 1, 4, 562), (382, 2, 0, 269), (383, 4, 0, 308), (386, 4, 1, 311), (389, 4, 2, 314), (392, 3, 0, 530)],
  [(7, 11, 0, 1310), (13, 11, 1, 1311), (16, 11, 2, 1312), (19, 11, 3, 1313), (22, 11, 6, 1316), (25, 11, 7, 1317), (28, 11, 8, 1318), (31, 11, 9, 1319), (34, 11, 10, 1320), (37, 11, 11, 1321), (40, 11, 25, 1335), (44, 11, 27, 1337), (47, 11, 30, 1340), (50, 11, 31, 1341), (53, 11, 32, 1342), (57, 11, 33, 1343), (60, 11, 34, 1344), (63, 11, 35, 1345), (66, 11, 36, 1346), (69, 11, 37, 1347), (80, 11, 4, 1314), (98, 11, 16, 1326), (101, 11, 17, 1327), (104, 11, 19, 1329), (158, 11, 12, 1322), (179, 11, 18, 1328), (191, 11, 20, 1330), (194, 11, 21, 1331), (197, 11, 22, 1332), (206, 11, 14, 1324), (209, 11, 24, 1334), (241, 11, 13, 1323), (250, 11, 15, 1325), (287, 11, 23, 1333), (322, 11, 26, 1336), (332, 11, 28, 1338), (341, 11, 29, 1339), (441, 11, 5, 1315)],
  [],
  [],
  [],
  [],
  [],
  []]
def qML : List (List (Nat × Nat × Nat × Nat)) := [
  [(19, 13, 0, 687)],
  [],
  [(37, 13, 0, 988), (43, 0, 6, 716), (47, 1, 7, 720)],
  [(22, 0, 53, 672), (29, 11, 0, 688)],
  [(40, 0, 12, 1280), (44, 0, 13, 1281), (47, 0, 14, 1282), (54, 13, 0, 993), (77, 2, 146, 983), (81, 0, 21, 1218), (86, 0, 22, 1223), (90, 11, 0, 1227)],
  [(52, 0, 25, 808), (55, 0, 3, 891), (58, 0, 15, 895), (59, 0, 34, 899), (63, 0, 41, 903), (67, 0, 49, 963), (70, 0, 51, 971), (73, 0, 52, 975), (79, 1, 27, 812), (82, 0, 29, 815), (86, 0, 32, 819), (90, 0, 26, 876), (94, 1, 28, 880), (97, 0, 30, 883), (100, 0, 31, 887), (111, 0, 276, 824), (117, 0, 275, 834), (121, 0, 33, 872), (125, 0, 36, 915), (128, 0, 37, 911), (131, 0, 35, 939), (135, 0, 40, 907), (147, 0, 42, 919), (153, 0, 45, 943), (159, 0, 38, 959), (165, 0, 43, 923), (168, 0, 4, 931), (171, 0, 44, 927), (174, 0, 39, 935), (183, 0, 46, 947), (186, 0, 47, 951), (189, 0, 48, 955), (197, 0, 50, 967), (230, 0, 17, 979)],
  [(46, 0, 54, 676), (50, 0, 1, 683), (79, 13, 0, 680), (85, 0, 57, 707), (89, 0, 55, 667), (92, 0, 56, 765), (95, 2, 149, 664), (99, 0, 63, 1052), (102, 0, 66, 1030), (105, 11, 0, 770)],
  [(54, 13, 0, 1287), (60, 0, 88, 1288), (64, 11, 0, 1105), (70, 10, 0, 1106), (85, 0, 73, 1107), (91, 0, 75, 1125), (102, 12, 0, 1150), (108, 0, 79, 1173), (111, 0, 80, 1177), (114, 0, 83, 1205), (117, 0, 85, 1255)],
  [(28, 11, 0, 1292)],
  [(31, 0, 57, 695), (43, 0, 55, 702), (52, 0, 63, 703), (63, 0, 56, 696), (75, 0, 5, 712), (81, 11, 0, 723), (87, 10, 0, 724), (90, 2, 149, 697), (93, 0, 91, 698), (97, 0, 92, 725), (101, 0, 93, 737), (107, 0, 94, 741), (114, 0, 0, 745), (120, 0, 89, 708), (130, 2, 147, 729), (133, 2, 148, 734), (142, 0, 16, 779), (163, 0, 90, 783), (170, 0, 96, 784), (177, 0, 70, 766), (180, 0, 65, 761)],
  [(79, 0, 10, 609), (82, 1, 146, 617), (89, 0, 60, 620), (96, 0, 61, 628), (100, 0, 56, 636), (107, 0, 62, 640), (114, 0, 55, 648), (121, 0, 57, 652), (127, 0, 59, 660), (130, 0, 8, 668), (133, 0, 90, 691), (136, 0, 105, 753), (140, 0, 97, 757), (153, 0, 95, 775), (160, 0, 23, 792), (163, 0, 24, 804), (168, 0, 2, 984), (173, 0, 12, 989), (177, 0, 13, 994), (180, 0, 14, 998), (198, 0, 63, 1011), (204, 0, 89, 1012), (211, 0, 66, 1017), (214, 0, 65, 1025), (217, 0, 67, 1026), (223, 0, 18, 1031), (238, 0, 54, 1047), (244, 0, 64, 1048), (247, 0, 68, 1053), (250, 0, 58, 1061), (256, 1, 274, 1073), (261, 1, 121, 1079), (264, 1, 120, 1082), (267, 1, 123, 1089), (270, 10, 0, 1085), (275, 1, 122, 1086), (278, 1, 149, 1092), (284, 0, 72, 1101), (293, 0, 74, 1121), (300, 0, 87, 1133), (305, 0, 86, 1137), (308, 0, 76, 1145), (311, 0, 77, 1157), (317, 0, 78, 1169), (324, 0, 81, 1189), (333, 0, 82, 1201), (336, 0, 83, 1209), (339, 0, 19, 1214), (342, 0, 20, 1228), (348, 1, 147, 1241), (351, 1, 148, 1242), (357, 0, 84, 1251), (360, 0, 9, 1267), (369, 0, 53, 1275), (373, 0, 11, 1276), (376, 0, 71, 1283), (379, 0, 69, 1297)],
  [(76, 1, 151, 1438), (83, 0, 159, 1430), (88, 0, 156, 1449), (92, 0, 155, 1457), (95, 0, 157, 1461), (107, 0, 276, 1501), (113, 0, 275, 1502), (119, 0, 171, 1497), (155, 0, 172, 1509), (161, 0, 173, 1492), (175, 0, 168, 1481), (182, 1, 169, 1485), (185, 0, 174, 1488), (188, 1, 170, 1529), (200, 0, 176, 1540), (203, 0, 175, 1477), (212, 0, 181, 1548), (216, 0, 178, 1556), (220, 0, 182, 1552), (223, 0, 184, 1564), (226, 0, 185, 1568), (229, 0, 179, 1572), (232, 0, 183, 1560), (235, 0, 177, 1576), (238, 0, 180, 1544), (244, 0, 186, 1536), (247, 0, 188, 1596), (253, 0, 189, 1592), (257, 0, 190, 1600), (260, 1, 152, 1616), (264, 0, 193, 1612), (268, 0, 191, 1588), (271, 0, 192, 1604), (274, 0, 194, 1608), (277, 0, 195, 1584), (280, 0, 197, 1623), (283, 0, 198, 1627), (290, 0, 187, 1532), (293, 0, 196, 1580), (296, 0, 199, 1619), (299, 1, 202, 1683), (302, 0, 203, 1679), (305, 0, 204, 1675), (308, 1, 153, 1686), (311, 0, 206, 1667), (313, 0, 207, 1663), (316, 0, 205, 1671), (319, 0, 158, 1693), (326, 0, 208, 1659), (329, 0, 209, 1711), (335, 0, 214, 1655), (338, 0, 210, 1689), (344, 0, 161, 1697), (347, 0, 213, 1703), (350, 0, 215, 1707), (353, 0, 217, 1643), (356, 0, 211, 1647), (359, 0, 216, 1651), (362, 0, 219, 1727), (365, 0, 221, 1719), (369, 0, 220, 1723), (373, 0, 223, 1739), (376, 0, 225, 1743), (379, 0, 224, 1747), (382, 0, 226, 1735), (385, 0, 229, 1759), (388, 0, 231, 1767), (391, 0, 232, 1771), (394, 0, 236, 1787), (397, 0, 237, 1791), (400, 0, 239, 1799), (403, 0, 242, 1811), (408, 0, 245, 1823), (412, 1, 154, 1848), (415, 0, 250, 1844), (418, 0, 254, 1863), (421, 0, 257, 1875), (424, 0, 260, 1887), (428, 0, 262, 1900), (431, 0, 263, 1895), (434, 0, 264, 1904), (438, 0, 269, 1925)],
  [],
  [],
  [],
  [],
  [],
  []]
def qCL : List (List (Nat × Int32 × Nat)) := [
  [],
  [],
  [],
  [],
  [(85, 1000000, 1222)],
  [],
  [],
  [(95, 1000000, 1149)],
  [],
  [],
  [(345, 2000000000, 1236), (346, 1664525, 732), (347, 1013904223, 733)],
  [(86, 1664525, 1701), (87, 1013904223, 1702), (427, 100000000, 1899), (437, 2000000000, 1912)],
  [],
  [(265, 1431655765, 1076), (266, 858993459, 1077), (267, 252645135, 1078)],
  [],
  [],
  [],
  []]
def qLL : List (List (Nat × Nat × Nat)) := [
  [],
  [],
  [],
  [],
  [],
  [],
  [],
  [(89, 1000000007, 1111)],
  [],
  [],
  [(288, 1000000007, 1112)],
  [(406, 1000000007, 1827)],
  [],
  [],
  [],
  [],
  [],
  []]
def qSL : List (List (Nat × Nat)) := [
  [],
  [],
  [],
  [],
  [],
  [(109, 0)],
  [],
  [],
  [],
  [],
  [],
  [(117, 1), (123, 2), (125, 3), (127, 4), (129, 5), (131, 6), (133, 7), (135, 8), (137, 9), (139, 10), (141, 11), (143, 12), (145, 13), (147, 14), (149, 15), (151, 16), (153, 17), (164, 18), (166, 19), (168, 20), (169, 21), (171, 22), (173, 23)],
  [],
  [],
  [],
  [],
  [],
  []]
def qST : List (Nat × Nat × String) := [(5, 109, "size heel clay land load wet frost stone called day takes leaves strays when or and not on person by to thaw door"), (11, 117, "size"), (11, 123, "heel"), (11, 125, "clay"), (11, 127, "land"), (11, 129, "load"), (11, 131, "wet"), (11, 133, "frost"), (11, 135, "stone"), (11, 137, "called"), (11, 139, "day"), (11, 141, "when"), (11, 143, "or"), (11, 145, "and"), (11, 147, "not"), (11, 149, "takes"), (11, 151, "leaves"), (11, 153, "strays"), (11, 164, "on"), (11, 166, "person"), (11, 168, "by"), (11, 169, "to"), (11, 171, "thaw"), (11, 173, "door")]
def qNW : List Cond := [.methodLinkNest "ClayBoots" 11 ⟨"ClayBoots$Shire", "<init>", "()V"⟩ "ClayBoots", .methodLinkNest "ClayBoots$Shire" 41 ⟨"ClayBoots$Book", "<init>", "()V"⟩ "ClayBoots", .methodLinkNest "ClayBoots" 21 ⟨"ClayBoots$Law", "<init>", "()V"⟩ "ClayBoots", .methodLinkNest "ClayBoots" 28 ⟨"ClayBoots$Plans", "<init>", "()V"⟩ "ClayBoots", .methodLinkNest "ClayBoots$Reader" 11 ⟨"ClayBoots$Law", "<init>", "()V"⟩ "ClayBoots", .methodLinkNest "ClayBoots$Reader" 20 ⟨"ClayBoots$Plans", "<init>", "()V"⟩ "ClayBoots", .methodLinkNest "ClayBoots$Past" 17 ⟨"ClayBoots$Shire", "<init>", "()V"⟩ "ClayBoots", .methodLinkNest "ClayBoots" 70 ⟨"ClayBoots$Image", "<init>", "()V"⟩ "ClayBoots", .methodLinkNest "ClayBoots$Image" 9 ⟨"ClayBoots$Shire", "<init>", "()V"⟩ "ClayBoots", .methodLinkNest "ClayBoots$Image" 18 ⟨"ClayBoots$Law", "<init>", "()V"⟩ "ClayBoots", .methodLinkNest "ClayBoots$Image" 25 ⟨"ClayBoots$Plans", "<init>", "()V"⟩ "ClayBoots", .methodLinkNest "ClayBoots$Shire" 95 ⟨"ClayBoots", "unitOf", "(I)I"⟩ "ClayBoots", .methodLinkNest "ClayBoots$Walk" 90 ⟨"ClayBoots", "unitOf", "(I)I"⟩ "ClayBoots", .methodLinkNest "ClayBoots$Walk" 130 ⟨"ClayBoots", "afterDraw", "(I)I"⟩ "ClayBoots", .methodLinkNest "ClayBoots$Walk" 133 ⟨"ClayBoots", "drawn", "(II)I"⟩ "ClayBoots", .methodLinkNest "ClayBoots$Plans" 77 ⟨"ClayBoots", "within", "(III)Z"⟩ "ClayBoots"]
def qtb : List Cond := lw_tbl
def qgw : List Cond := lw_tbl.filter goodWord
theorem qgw_of {i : Nat} {w : Cond} (h : lw_tbl[i]? = some w) (hg : goodWord w = true) : w ∈ qgw := List.mem_filter.mpr ⟨List.mem_of_getElem? h, hg⟩
set_option maxRecDepth 100000 in
theorem qLW_ok : (List.range 12).all (fun ci => (List.range (qN ci)).all (fun k => decide (lw_tbl[(qLW.getD ci []).getD k 0]? = some (u_lay (qcn ci) (qT ci) k)) && goodWord (u_lay (qcn ci) (qT ci) k))) = true := by decide +kernel
set_option maxRecDepth 100000 in
theorem qty_ok : (List.range 12).all (fun ci => (List.range (qN ci)).all (fun k => decide (parseFieldDescriptor (qT ci k).2.2.1 = some (qty ci k)))) = true := by decide +kernel
set_option maxRecDepth 100000 in
theorem qnm_ok : (List.range 12).all (fun ci => (List.range (qN ci)).all (fun a => (List.range (qN ci)).all (fun b => a == b || decide ((qT ci a).2.1 ≠ (qT ci b).2.1)))) = true := by decide +kernel
set_option maxRecDepth 100000 in
theorem qFL_ok : (List.range 18).all (fun o => (qFL.getD o []).all (fun e => decide (e.2.1 < 12) && decide (e.2.2.1 < qN e.2.1) && decide ((qT e.2.1 e.2.2.1).1 = qcn e.2.1) && decide (lw_tbl[e.2.2.2]? = some (.fieldLink (qcn o) e.1 (qcn e.2.1) (qT e.2.1 e.2.2.1).2.1 (qT e.2.1 e.2.2.1).2.2.1)))) = true := by decide +kernel
set_option maxRecDepth 100000 in
theorem qML_ok : (List.range 18).all (fun o => (qML.getD o []).all (fun e => match e.2.1 with | 0 => decide (lw_tbl[e.2.2.2]? = some (.methodLink (qcn o) e.1 (qyn e.2.2.1))) && !(qmw e.2.2.1).1 | 1 => decide (lw_tbl[e.2.2.2]? = some (.methodLink (qcn o) e.1 (qyn e.2.2.1))) && (qmw e.2.2.1).1 | 2 => decide (Cond.methodLinkNest (qcn o) e.1 (qyn e.2.2.1) "ClayBoots" ∈ qNW) && (qmw e.2.2.1).1 | 10 => decide (lw_tbl[e.2.2.2]? = some (.methodLink (qcn o) e.1 Lib.Math.max.name)) | 11 => decide (lw_tbl[e.2.2.2]? = some (.methodLink (qcn o) e.1 Lib.Math.min.name)) | 12 => decide (lw_tbl[e.2.2.2]? = some (.methodLink (qcn o) e.1 Lib.Math.abs.name)) | 13 => decide (lw_tbl[e.2.2.2]? = some (.methodLink (qcn o) e.1 arraycopyName)) | _ => false)) = true := by decide +kernel
set_option maxRecDepth 100000 in
theorem qCL_ok : (List.range 18).all (fun o => (qCL.getD o []).all (fun e => decide (lw_tbl[e.2.2]? = some (.constant (qcn o) e.1 e.2.1)))) = true := by decide +kernel
set_option maxRecDepth 100000 in
theorem qLL_ok : (List.range 18).all (fun o => (qLL.getD o []).all (fun e => decide (lw_tbl[e.2.2]? = some (.constantLong (qcn o) e.1 (Int64.ofNat e.2.1))))) = true := by decide +kernel
set_option maxRecDepth 100000 in
theorem qSL_ok : (List.range 18).all (fun o => (qSL.getD o []).all (fun e => decide (((qST[e.2]?).map (fun z => (z.1, z.2.1))) = some (o, e.1)))) = true := by decide +kernel
set_option maxRecDepth 100000 in
theorem qMW_ok : (List.range qNM).all (fun m => decide (lw_tbl[(qmw m).2.2.2.1]? = some (if (qmw m).1 then .static (qyn m) else .instanceMethod (qyn m))) && ((qmw m).1 || decide (lw_tbl[(qmw m).2.2.2.2.1]? = some (.selects (qcn (qow m)) (qyn m) (qyn m)))) && decide (lw_tbl[(qmw m).2.2.2.2.2]? = some (.initialized (qcn (qow m))))) = true := by decide +kernel
set_option maxRecDepth 100000 in
theorem qMD_ok : (List.range qNM).all (fun m => decide ((parseMethodDescriptor (qyn m).desc).map (fun d => d.parameters.length) = some (qmw m).2.1) && decide (qcn (qow m) ≠ "java/lang/invoke/MethodHandle") && decide (qcn (qow m) ≠ "java/lang/invoke/VarHandle") && plainName (qcn (qow m)) && decide (qml m ≤ 20)) = true := by decide +kernel
end
section
set_option maxRecDepth 100000 in
theorem qMC0 : ([0, 1, 2, 3, 4, 5, 6, 7, 8, 9, 10, 11, 12, 13, 14, 15, 16, 17, 18, 19] : List Nat).map (fun m => lw_tbl[(qmw m).2.2.1]?) = ([0, 1, 2, 3, 4, 5, 6, 7, 8, 9, 10, 11, 12, 13, 14, 15, 16, 17, 18, 19] : List Nat).map (fun m => some (Cond.code (qyn m) (qbt m) (qml m) (qrt m))) := rfl
set_option maxRecDepth 100000 in
theorem qMC1 : ([20, 21, 22, 23, 24, 25, 26, 27, 28, 29, 30, 31, 32, 33, 34, 35, 36, 37, 38, 39] : List Nat).map (fun m => lw_tbl[(qmw m).2.2.1]?) = ([20, 21, 22, 23, 24, 25, 26, 27, 28, 29, 30, 31, 32, 33, 34, 35, 36, 37, 38, 39] : List Nat).map (fun m => some (Cond.code (qyn m) (qbt m) (qml m) (qrt m))) := rfl
set_option maxRecDepth 100000 in
theorem qMC2 : ([40, 41, 42, 43, 44, 45, 46, 47, 48, 49, 50, 51, 52, 53, 54, 55, 56, 57, 58, 59] : List Nat).map (fun m => lw_tbl[(qmw m).2.2.1]?) = ([40, 41, 42, 43, 44, 45, 46, 47, 48, 49, 50, 51, 52, 53, 54, 55, 56, 57, 58, 59] : List Nat).map (fun m => some (Cond.code (qyn m) (qbt m) (qml m) (qrt m))) := rfl
set_option maxRecDepth 100000 in
theorem qMC3 : ([60, 61, 62, 63, 64, 65, 66, 67, 68, 69, 70, 71, 72, 73, 74, 75, 76, 77, 78, 79] : List Nat).map (fun m => lw_tbl[(qmw m).2.2.1]?) = ([60, 61, 62, 63, 64, 65, 66, 67, 68, 69, 70, 71, 72, 73, 74, 75, 76, 77, 78, 79] : List Nat).map (fun m => some (Cond.code (qyn m) (qbt m) (qml m) (qrt m))) := rfl
set_option maxRecDepth 100000 in
theorem qMC4 : ([80, 81, 82, 83, 84, 85, 86, 87, 88, 89, 90, 91, 92, 93, 94, 95, 96, 97, 98, 99] : List Nat).map (fun m => lw_tbl[(qmw m).2.2.1]?) = ([80, 81, 82, 83, 84, 85, 86, 87, 88, 89, 90, 91, 92, 93, 94, 95, 96, 97, 98, 99] : List Nat).map (fun m => some (Cond.code (qyn m) (qbt m) (qml m) (qrt m))) := rfl
set_option maxRecDepth 100000 in
theorem qMC5 : ([100, 101, 102, 103, 104, 105, 106, 107, 108, 109, 110, 111, 112, 113, 114, 115, 116, 117, 118, 119] : List Nat).map (fun m => lw_tbl[(qmw m).2.2.1]?) = ([100, 101, 102, 103, 104, 105, 106, 107, 108, 109, 110, 111, 112, 113, 114, 115, 116, 117, 118, 119] : List Nat).map (fun m => some (Cond.code (qyn m) (qbt m) (qml m) (qrt m))) := rfl
set_option maxRecDepth 100000 in
theorem qMC6 : ([120, 121, 122, 123, 124, 125, 126, 127, 128, 129, 130, 131, 132, 133, 134, 135, 136, 137, 138, 139] : List Nat).map (fun m => lw_tbl[(qmw m).2.2.1]?) = ([120, 121, 122, 123, 124, 125, 126, 127, 128, 129, 130, 131, 132, 133, 134, 135, 136, 137, 138, 139] : List Nat).map (fun m => some (Cond.code (qyn m) (qbt m) (qml m) (qrt m))) := rfl
set_option maxRecDepth 100000 in
theorem qMC7 : ([140, 141, 142, 143, 144, 145, 146, 147, 148, 149, 150, 151, 152, 153, 154, 155, 156, 157, 158, 159] : List Nat).map (fun m => lw_tbl[(qmw m).2.2.1]?) = ([140, 141, 142, 143, 144, 145, 146, 147, 148, 149, 150, 151, 152, 153, 154, 155, 156, 157, 158, 159] : List Nat).map (fun m => some (Cond.code (qyn m) (qbt m) (qml m) (qrt m))) := rfl
set_option maxRecDepth 100000 in
theorem qMC8 : ([160, 161, 162, 163, 164, 165, 166, 167, 168, 169, 170, 171, 172, 173, 174, 175, 176, 177, 178, 179] : List Nat).map (fun m => lw_tbl[(qmw m).2.2.1]?) = ([160, 161, 162, 163, 164, 165, 166, 167, 168, 169, 170, 171, 172, 173, 174, 175, 176, 177, 178, 179] : List Nat).map (fun m => some (Cond.code (qyn m) (qbt m) (qml m) (qrt m))) := rfl
set_option maxRecDepth 100000 in
theorem qMC9 : ([180, 181, 182, 183, 184, 185, 186, 187, 188, 189, 190, 191, 192, 193, 194, 195, 196, 197, 198, 199] : List Nat).map (fun m => lw_tbl[(qmw m).2.2.1]?) = ([180, 181, 182, 183, 184, 185, 186, 187, 188, 189, 190, 191, 192, 193, 194, 195, 196, 197, 198, 199] : List Nat).map (fun m => some (Cond.code (qyn m) (qbt m) (qml m) (qrt m))) := rfl
set_option maxRecDepth 100000 in
theorem qMC10 : ([200, 201, 202, 203, 204, 205, 206, 207, 208, 209, 210, 211, 212, 213, 214, 215, 216, 217, 218, 219] : List Nat).map (fun m => lw_tbl[(qmw m).2.2.1]?) = ([200, 201, 202, 203, 204, 205, 206, 207, 208, 209, 210, 211, 212, 213, 214, 215, 216, 217, 218, 219] : List Nat).map (fun m => some (Cond.code (qyn m) (qbt m) (qml m) (qrt m))) := rfl
set_option maxRecDepth 100000 in
theorem qMC11 : ([220, 221, 222, 223, 224, 225, 226, 227, 228, 229, 230, 231, 232, 233, 234, 235, 236, 237, 238, 239] : List Nat).map (fun m => lw_tbl[(qmw m).2.2.1]?) = ([220, 221, 222, 223, 224, 225, 226, 227, 228, 229, 230, 231, 232, 233, 234, 235, 236, 237, 238, 239] : List Nat).map (fun m => some (Cond.code (qyn m) (qbt m) (qml m) (qrt m))) := rfl
set_option maxRecDepth 100000 in
theorem qMC12 : ([240, 241, 242, 243, 244, 245, 246, 247, 248, 249, 250, 251, 252, 253, 254, 255, 256, 257, 258, 259] : List Nat).map (fun m => lw_tbl[(qmw m).2.2.1]?) = ([240, 241, 242, 243, 244, 245, 246, 247, 248, 249, 250, 251, 252, 253, 254, 255, 256, 257, 258, 259] : List Nat).map (fun m => some (Cond.code (qyn m) (qbt m) (qml m) (qrt m))) := rfl
set_option maxRecDepth 100000 in
theorem qMC13 : ([260, 261, 262, 263, 264, 265, 266, 267, 268, 269, 270, 271, 272, 273, 274, 275, 276] : List Nat).map (fun m => lw_tbl[(qmw m).2.2.1]?) = ([260, 261, 262, 263, 264, 265, 266, 267, 268, 269, 270, 271, 272, 273, 274, 275, 276] : List Nat).map (fun m => some (Cond.code (qyn m) (qbt m) (qml m) (qrt m))) := rfl
end
section
/-! A small machine over columns: a cell of the world is (column, instance); ints lie in M.1 column instance slot, longs in M.2. -/
abbrev Mem : Type := (Nat → Nat → Nat → Int32) × (Nat → Nat → Nat → Int64)
abbrev Lc : Type := List (Option Vl)
abbrev Cx : Type := Launch × va_G × (Nat → Nat → Nat) × (Nat → ClassId) × (Nat → Nat) × (Nat → Nat)
abbrev xl (X : Cx) : Launch := X.1
abbrev xD (X : Cx) : va_G := X.2.1
abbrev xa (X : Cx) : Nat → Nat → Nat := X.2.2.1
abbrev xc (X : Cx) : Nat → ClassId := X.2.2.2.1
abbrev xk (X : Cx) : Nat → Nat := X.2.2.2.2.1
abbrev xv (X : Cx) : Nat → Nat := X.2.2.2.2.2
abbrev vI (x : Int32) : Vl := .inl x
abbrev vJ (x : Int64) : Vl := .inr (.inl x)
abbrev vR (c a : Nat) : Vl := .inr (.inr (c, a))
def tv (X : Cx) : Vl → Value
  | .inl x => .int x
  | .inr (.inl y) => .long y
  | .inr (.inr (0, _)) => .null
  | .inr (.inr (1, a)) => .ref (xk X a)
  | .inr (.inr (c + 2, a)) => .ref (xa X (c + 2) a)
def st (M : Mem) (c a j : Nat) (x : Int32) : Mem := (fun c' a' j' => if c' = c ∧ a' = a ∧ j' = j then x else M.1 c' a' j', M.2)
def stL (M : Mem) (c a j : Nat) (x : Int64) : Mem := (M.1, fun c' a' j' => if c' = c ∧ a' = a ∧ j' = j then x else M.2 c' a' j')
def cpy (M : Mem) (c0 a0 c a sp dp n : Nat) : Mem := (fun c' a' j' => if c' = c ∧ a' = a ∧ dp ≤ j' ∧ j' < dp + n then M.1 c0 a0 (sp + (j' - dp)) else M.1 c' a' j', M.2)
def ix (i : Int32) : Nat := i.toNatClampNeg
def inb (i : Int32) (n : Nat) : Prop := ¬ (i < 0 ∨ n ≤ i.toNatClampNeg)
def isB (x : Int32) : Prop := x = 0 ∨ x = 1
def qfv (X : Cx) (M : Mem) (c a j : Nat) (f : Nat × Nat × Nat) : Value :=
  match f.1 with
  | 0 => .int (M.1 c a j)
  | 1 => .int (M.1 c a j)
  | 2 => .ref (xa X f.2.1 a)
  | _ => .ref (xa X f.2.1 f.2.2)
def qent (X : Cx) (M : Mem) (c a : Nat) : va_E :=
  match (qcol c).1 with
  | 0 => .inr ((qcol c).2.1, (qcol c).2.2.mapIdx (fun j f => qfv X M c a j f))
  | 1 => .inl (xc X 0, (qcol c).2.1, .inl (M.1 c a))
  | 2 => .inl (xc X 1, (qcol c).2.1, .inl (M.1 c a))
  | 3 => .inl (xc X 2, (qcol c).2.1, .inr (.inl (M.2 c a)))
  | _ => .inl (xc X 3, (qcol c).2.1, .inr (.inr (.inr (.inr (fun i => some (xa X ((qcol c).2.2.getD 0 (0, 0, 0)).2.1 (((qcol c).2.2.getD 0 (0, 0, 0)).2.2 + i)))))))
def qwl (X : Cx) (M : Mem) : va_W := qPAIRS.map (fun p => (xa X p.1 p.2, qent X M p.1 p.2))
def qtys (X : Cx) : List (ClassId × FieldType) := [(xc X 0, .int), (xc X 1, .boolean), (xc X 2, .long), (xc X 3, .object "ClayBoots$Shire")]
def inW (X : Cx) : Nat → Prop := fun q => ∃ p ∈ qPAIRS, q = xa X p.1 p.2
def XD (X : Cx) : Prop := ∀ p ∈ qPAIRS, ∀ r ∈ qPAIRS, xa X p.1 p.2 = xa X r.1 r.2 → p = r
def Rp (X : Cx) (M : Mem) (H : Heap) : Prop := va_P (xD X) qcl (qwl X M) H
def qSlen : List Nat := qST.map (fun z => z.2.2.length)
def qSbyt : List (List Int32) := qST.map (fun z => z.2.2.toList.map (fun c => Int32.ofNat c.toNat))
/-- what is given of tables, texts and statics; U and H: a state and a heap in which the texts lie -/
def Gd (X : Cx) (U : State) (H : Heap) : Prop :=
  XD X ∧ va_K (xD X) qcl (qtys X) U ∧ (∀ w ∈ qNW, va_Nw w U) ∧ (∀ (i : Nat) (z : Nat × Nat × String), qST[i]? = some z → vk_R (qcn z.1) z.2.1 z.2.2 (xk X i) U) ∧
  vk_S 24 qSlen qSbyt (xk X) (xv X) (inW X) U H ∧ va_Z "java/lang/String" "COMPACT_STRINGS" "Z" (.int 1) (inW X) U H
theorem qNW_warm {w : Cond} (hw : w ∈ qNW) {s U : State} (hW : s.WarmedH U.vm) (h : va_Nw w s) : va_Nw w U := by
  have : ∃ a i x hh, w = .methodLinkNest a i x hh := by
    simp only [qNW, List.mem_cons, List.not_mem_nil, or_false] at hw
    rcases hw with h | h | h | h | h | h | h | h | h | h | h | h | h | h | h | h <;> exact ⟨_, _, _, _, h⟩
  obtain ⟨a, i, x, hh, rfl⟩ := this
  exact va_Nw.warmM hW h
theorem Gd.move {X : Cx} {s U : State} {H H1 : Heap} (hW : s.WarmedH U.vm) (hk : ∀ q : Nat, q < H.size → ¬ inW X q → H1[q]? = H[q]?) (h : Gd X s H) : Gd X U H1 := by
  obtain ⟨h1, h2, h3, h4, h5, h6⟩ := h
  exact ⟨h1, va_K.moved hW.alike h2, fun w hw => qNW_warm hw hW (h3 w hw), fun i z hz => vk_R.warm hW (h4 i z hz), (vk_S.moved hW.alike h5).kept hk, (va_Z.moved hW.alike h6).kept hk⟩
theorem Gd.same {X : Cx} {s U : State} {H : Heap} (hv : U.vm = s.vm) (h : Gd X s H) : Gd X U H := by
  obtain ⟨h1, h2, h3, h4, h5, h6⟩ := h
  have ha : s.vm.Alike U.vm := by rw [hv]; exact Vm.Alike.refl s.vm
  refine ⟨h1, va_K.moved ha h2, fun w hw => va_Nw.same ?_ hv.symm (h3 w hw), fun i z hz => vk_R.same hv (h4 i z hz), vk_S.moved ha h5, va_Z.moved ha h6⟩
  simp only [qNW, List.mem_cons, List.not_mem_nil, or_false] at hw
  rcases hw with h | h | h | h | h | h | h | h | h | h | h | h | h | h | h | h <;> (rw [h]; rfl)
def okV : Vl → Prop
  | .inr (.inr (c, a)) => c = 0 ∨ (c = 1 ∧ a < 24) ∨ (c, a) ∈ qPAIRS
  | _ => True
def okS (S : List Vl) : Prop := ∀ v ∈ S, okV v
def okL (L : Lc) : Prop := ∀ v, some v ∈ L → okV v
def okR : Option Vl → Prop
  | some (.inr (.inr _)) => False
  | _ => True
def rmm (d : Nat) : Room := { frames := d, cells := 0, slots := 0, locals := 100 * d + 100 }
/-- method m, called with args in the memory M, returns r in the memory M2 -/
def CC (X : Cx) (d m : Nat) (args : List Vl) (M : Mem) (r : Option Vl) (M2 : Mem) : Prop :=
  okR r ∧ (okS args → Met (xl X) (qyn m) (Cond.code (qyn m) (qbt m) (qml m) (qrt m) :: qgw) (rmm d) (va_Pc (args.map (tv X)) (fun U => Gd X U U.heap ∧ Rp X M U.heap))
    (fun _ st o t => o = .returned (r.map (tv X)) ∧ Rp X M2 t.heap ∧ va_F (inW X) st t) 0 0 (inW X))
def LV (X : Cx) (n : Nat) (L : Lc) (ls : Array Slot) : Prop := ls.size = n ∧ lv_wf ls ∧ ∀ (i : Nat) (v : Vl), L[i]? = some (some v) → ls[i]? = some (.val (tv X v))
def QC (X : Cx) (Q : Option Vl → Mem → Prop) : Array Value → State → Outcome → State → Prop := fun _ st o t => ∃ (r : Option Vl) (M2 : Mem), o = .returned (r.map (tv X)) ∧ Q r M2 ∧ Rp X M2 t.heap ∧ va_F (inW X) st t
def MC (m : Nat) (p : Program) (s : State) (mm : MethodId) (args : Array Value) (meth : Method) (c : Code) : Prop :=
  p.tables.exec = Jvm.exec ∧ c.code = qbt m ∧ meth.sig.returnType = qrt m ∧ c.maxLocals = qml m ∧ s.vm.findClass (qcn (qow m)) = some mm.cls ∧ (∀ w ∈ qgw, w.before args s = true) ∧ meth.locks = false
def Ct (X : Cx) (m : Nat) (p : Program) (s : State) (mm : MethodId) (args : Array Value) (meth : Method) (c : Code) (H : Heap) (locs : List Loc) (ls : Array Slot) (L : Lc) (S : List Vl) (M : Mem) : Prop :=
  MC m p s mm args meth c ∧ Gd X s s.heap ∧ Rp X M H ∧ va_S (inW X) s.heap H locs ∧ LV X (qml m) L ls ∧ L.length = qml m ∧ okL L ∧ okS S
/-- from here method m comes to its end, with Q -/
def V (X : Cx) (d m pc : Nat) (L : Lc) (S : List Vl) (M : Mem) (Q : Option Vl → Mem → Prop) : Prop :=
  ∀ (p : Program) (e : Env) (s : State) (mm : MethodId) (args : Array Value) (below : List Frame) (meth : Method) (c : Code) (H : Heap) (locs : List Loc) (ls : Array Slot),
    Ct X m p s mm args meth c H locs ls L S M → W p (xl X) e (rmm d) s mm args below meth c H locs 0 0 (MQ below (QC X Q) args s 0 0 (inW X)) (F0 mm pc ls (S.map (tv X)))
/-! the steps -/
def gI (o : Option Vl) (f : Int32 → Prop) : Prop := match o with | some (.inl v) => f v | _ => False
def gR (o : Option Vl) (f : Nat → Nat → Prop) : Prop := match o with | some (.inr (.inr (c, a))) => f c a | _ => False
def gJ (o : Option Vl) (f : Int64 → Prop) : Prop := match o with | some (.inr (.inl v)) => f v | _ => False
def bB (b : Bool) (p : Prop) : Prop := match b with | true => p | false => False
def tI (S : List Vl) (f : Int32 → List Vl → Prop) : Prop := match S with | .inl x :: S' => f x S' | _ => False
def tJ (S : List Vl) (f : Int64 → List Vl → Prop) : Prop := match S with | .inr (.inl x) :: S' => f x S' | _ => False
def tR (S : List Vl) (f : Nat → Nat → List Vl → Prop) : Prop := match S with | .inr (.inr (c, a)) :: S' => f c a S' | _ => False
def tII (S : List Vl) (f : Int32 → Int32 → List Vl → Prop) : Prop := match S with | .inl y :: .inl x :: S' => f x y S' | _ => False
def tJJ (S : List Vl) (f : Int64 → Int64 → List Vl → Prop) : Prop := match S with | .inr (.inl y) :: .inr (.inl x) :: S' => f x y S' | _ => False
def tIR (S : List Vl) (f : Nat → Nat → Int32 → List Vl → Prop) : Prop := match S with | .inl i :: .inr (.inr (c, a)) :: S' => f c a i S' | _ => False
def tXR (S : List Vl) (f : Nat → Nat → Int32 → List Vl → Prop) : Prop := match S with | .inl x :: .inr (.inr (c, a)) :: S' => f c a x S' | _ => False
def tIIR (S : List Vl) (f : Nat → Nat → Int32 → Int32 → List Vl → Prop) : Prop := match S with | .inl x :: .inl i :: .inr (.inr (c, a)) :: S' => f c a i x S' | _ => False
def tJIR (S : List Vl) (f : Nat → Nat → Int32 → Int64 → List Vl → Prop) : Prop := match S with | .inr (.inl x) :: .inl i :: .inr (.inr (c, a)) :: S' => f c a i x S' | _ => False
def tCP (S : List Vl) (f : Nat → Nat → Nat → Nat → Int32 → Int32 → Int32 → List Vl → Prop) : Prop := match S with | .inl n :: .inl dp :: .inr (.inr (c, a)) :: .inl sp :: .inr (.inr (c0, a0)) :: S' => f c0 a0 c a sp dp n S' | _ => False
def nl (L : Lc) (t : Nat) : Bool := match t with | 0 => true | t' + 1 => match L.getD t' none with | some (.inr (.inl _)) => false | _ => true
def c1 : Vl → Bool | .inr (.inl _) => false | _ => true
def qcat : Vl → Nat | .inr (.inl _) => 2 | _ => 1
def rcv (ci : Nat) (A : List Vl) : Bool := match A with | .inr (.inr (c, _)) :: _ => (Nat.ble 2 c && Nat.beq (qcol c).1 0 && Nat.beq (qcol c).2.1 ci) || (Nat.beq c 1 && Nat.beq ci 14) | _ => false
def cnd (u : Nat) (a b : Int32) (A B : Prop) : Prop :=
  match u with
  | 0 => (a = b → A) ∧ (¬ a = b → B)
  | 1 => (¬ a = b → A) ∧ (a = b → B)
  | 2 => (a < b → A) ∧ (¬ a < b → B)
  | 3 => (b ≤ a → A) ∧ (¬ b ≤ a → B)
  | 4 => (b < a → A) ∧ (¬ b < a → B)
  | _ => (a ≤ b → A) ∧ (¬ a ≤ b → B)
def swt (a : Int32) (k : Nat → Prop) (t : Nat) : List (Int32 × Nat) → Prop
  | [] => k t
  | (v, g) :: r => (a = v → k g) ∧ (¬ a = v → swt a k t r)
def wp1 (X : Cx) (d : Nat) (op : Nat) (x : Int32) (t u : Nat) (tb : List (Int32 × Nat)) (npc : Nat) (L : Lc) (S : List Vl) (M : Mem) (Q : Option Vl → Mem → Prop) (k : Nat → Lc → List Vl → Mem → Prop) : Prop :=
  match op with
  | 0 => k npc L (vI x :: S) M
  | 1 => gI (L.getD t none) (fun v => k npc L (vI v :: S) M)
  | 2 => gR (L.getD t none) (fun c a => k npc L (vR c a :: S) M)
  | 3 => gJ (L.getD t none) (fun v => k npc L (vJ v :: S) M)
  | 4 => bB (nl L t) (tI S (fun v S' => k npc (L.set t (some (vI v))) S' M))
  | 5 => bB (nl L t) (tR S (fun c a S' => k npc (L.set t (some (vR c a))) S' M))
  | 6 => bB (nl L t) (tJ S (fun v S' => k npc ((L.set t (some (vJ v))).set (t + 1) none) S' M))
  | 7 => bB (nl L t) (gI (L.getD t none) (fun v => k npc (L.set t (some (vI (v + x)))) S M))
  | 8 => match t with
    | 0 => tII S (fun a b S' => k npc L (vI (a + b) :: S') M)
    | 1 => tII S (fun a b S' => k npc L (vI (a - b) :: S') M)
    | 2 => tII S (fun a b S' => k npc L (vI (a * b) :: S') M)
    | 3 => tII S (fun a b S' => k npc L (vI (a &&& b) :: S') M)
    | 4 => tII S (fun a b S' => k npc L (vI (a ||| b) :: S') M)
    | 5 => tII S (fun a b S' => k npc L (vI (a ^^^ b) :: S') M)
    | 6 => tII S (fun a b S' => k npc L (vI (a <<< (b &&& 31)) :: S') M)
    | 7 => tII S (fun a b S' => k npc L (vI (a >>> (b &&& 31)) :: S') M)
    | _ => tII S (fun a b S' => k npc L (vI ((a.toUInt32 >>> (b.toUInt32 &&& Int32.toUInt32 31)).toInt32) :: S') M)
  | 9 => tII S (fun a b S' => ¬ b = 0 ∧ k npc L (vI (a / b) :: S') M)
  | 10 => tII S (fun a b S' => ¬ b = 0 ∧ k npc L (vI (a % b) :: S') M)
  | 11 => match t with
    | 0 => tJJ S (fun a b S' => k npc L (vJ (a + b) :: S') M)
    | _ => tJJ S (fun a b S' => k npc L (vJ (a * b) :: S') M)
  | 12 => tJJ S (fun a b S' => ¬ b = 0 ∧ k npc L (vJ (a % b) :: S') M)
  | 13 => tI S (fun a S' => k npc L (vJ a.toInt64 :: S') M)
  | 14 => tJ S (fun a S' => k npc L (vI a.toInt32 :: S') M)
  | 15 => match S with
    | v :: S' => bB (c1 v) (k npc L (v :: v :: S') M)
    | _ => False
  | 16 => match S with
    | v :: w :: S' => bB (c1 v && c1 w) (k npc L (v :: w :: v :: w :: S') M)
    | _ => False
  | 17 => match S with
    | v :: S' => bB (c1 v) (k npc L S' M)
    | _ => False
  | 18 => k t L S M
  | 19 => tI S (fun a S' => cnd u a 0 (k t L S' M) (k npc L S' M))
  | 20 => tII S (fun a b S' => cnd u a b (k t L S' M) (k npc L S' M))
  | 21 => tR S (fun c _ S' => match c with | 0 => k t L S' M | _ => k npc L S' M)
  | 22 => tR S (fun c _ S' => match c with | 0 => k npc L S' M | _ => k t L S' M)
  | 23 => tI S (fun a S' => swt a (fun g => k g L S' M) t tb)
  | 24 => tR S (fun c a S' => bB (Nat.ble 2 c && Nat.beq (qcol c).1 0 && Nat.beq (qcol c).2.1 u) (match (qcol c).2.2[t]? with
    | some (0, _, _) => k npc L (vI (M.1 c a t) :: S') M
    | some (1, _, _) => k npc L (vI (M.1 c a t) :: S') M
    | some (2, c', _) => k npc L (vR c' a :: S') M
    | some (3, c', a') => k npc L (vR c' a' :: S') M
    | _ => False))
  | 25 => tXR S (fun c a x S' => bB (Nat.ble 2 c && Nat.beq (qcol c).1 0 && Nat.beq (qcol c).2.1 u) (match (qcol c).2.2[t]? with
    | some (0, _, _) => ∀ M', M' = st M c a t x → k npc L S' M'
    | some (1, _, _) => isB x ∧ ∀ M', M' = st M c a t x → k npc L S' M'
    | _ => False))
  | 26 => tIR S (fun c a i S' => bB (Nat.beq (qcol c).1 1) (inb i (qcol c).2.1 ∧ k npc L (vI (M.1 c a (ix i)) :: S') M))
  | 27 => tIIR S (fun c a i x S' => bB (Nat.beq (qcol c).1 1) (inb i (qcol c).2.1 ∧ ∀ M', M' = st M c a (ix i) x → k npc L S' M'))
  | 28 => tIR S (fun c a i S' => bB (Nat.beq (qcol c).1 2) (inb i (qcol c).2.1 ∧ k npc L (vI (M.1 c a (ix i)) :: S') M))
  | 29 => tIIR S (fun c a i x S' => bB (Nat.beq (qcol c).1 2) (inb i (qcol c).2.1 ∧ isB x ∧ ∀ M', M' = st M c a (ix i) x → k npc L S' M'))
  | 30 => tIR S (fun c a i S' => bB (Nat.beq (qcol c).1 3) (inb i (qcol c).2.1 ∧ k npc L (vJ (M.2 c a (ix i)) :: S') M))
  | 31 => tJIR S (fun c a i x S' => bB (Nat.beq (qcol c).1 3) (inb i (qcol c).2.1 ∧ ∀ M', M' = stL M c a (ix i) x → k npc L S' M'))
  | 32 => tIR S (fun c _ i S' => bB (Nat.beq (qcol c).1 4) (inb i (qcol c).2.1 ∧ match (qcol c).2.2 with | (_, c', a') :: _ => k npc L (vR c' (a' + ix i) :: S') M | _ => False))
  | 33 => tR S (fun c _ S' => bB (Nat.beq (qcol c).1 1) (k npc L (vI (Int32.ofNat (qcol c).2.1) :: S') M))
  | 34 => match S with | [.inl v] => Q (some (vI v)) M | _ => False
  | 35 => match S with | [.inl v] => isB v ∧ Q (some (vI v)) M | _ => False
  | 36 => match S with | [.inr (.inl v)] => Q (some (vJ v)) M | _ => False
  | 37 => match S with | [] => Q none M | _ => False
  | 38 => bB (Nat.ble u S.length && Nat.ble ((S.drop u).map qcat).sum 8) (∃ r M', CC X d t (S.take u).reverse M r M' ∧ k npc L (r.toList ++ S.drop u) M')
  | 39 => match t with
    | 0 => bB (Nat.ble (S.map qcat).sum 20) (tII S (fun a b S' => k npc L (vI (if a < b then b else a) :: S') M))
    | 1 => bB (Nat.ble (S.map qcat).sum 20) (tII S (fun a b S' => k npc L (vI (if b < a then b else a) :: S') M))
    | _ => bB (Nat.ble (S.map qcat).sum 20) (tI S (fun a S' => k npc L (vI (if 0 ≤ a then a else 0 - a) :: S') M))
  | 40 => bB (Nat.ble (S.map qcat).sum 20) (tCP S (fun c0 a0 c a sp dp n S' => bB (Nat.beq (qcol c0).1 1 && Nat.beq (qcol c).1 1) (¬ sp < 0 ∧ ¬ dp < 0 ∧ ¬ n < 0 ∧ ix sp + ix n ≤ (qcol c0).2.1 ∧ ix dp + ix n ≤ (qcol c).2.1 ∧ ∀ M', M' = cpy M c0 a0 c a (ix sp) (ix dp) (ix n) → k npc L S' M')))
  | 41 => k npc L (vR 1 t :: S) M
  | 42 => k npc L (vJ (Int64.ofNat t) :: S) M
  | 43 => k npc L (vR 0 0 :: S) M
  | 44 => bB (Nat.ble u S.length && Nat.ble ((S.drop u).map qcat).sum 8 && rcv (tb.getD 0 (0, 0)).2 (S.take u).reverse) (∃ r M', CC X d t (S.take u).reverse M r M' ∧ k npc L (r.toList ++ S.drop u) M')
  | _ => False
def qfetch : List En → Nat → Option (Nat × Nat × Int32 × Nat × Nat × List (Int32 × Nat))
  | [], _ => none
  | e :: r, pc => match Nat.beq e.1 pc with
    | true => some e.2
    | false => qfetch r pc
def qcut : List (Nat × List Bool) → Nat → Option (List Bool)
  | [], _ => none
  | e :: r, pc => match Nat.beq e.1 pc with
    | true => some e.2
    | false => qcut r pc
def qmask : List Bool → Lc → Lc
  | true :: bs, o :: L => o :: qmask bs L
  | false :: bs, _ :: L => none :: qmask bs L
  | _, L => L
def wpn (X : Cx) (d m : Nat) (cd : List En) (cuts : List (Nat × List Bool)) : Nat → Nat → Lc → List Vl → Mem → (Option Vl → Mem → Prop) → Prop
  | 0, _, _, _, _, _ => False
  | n + 1, pc, L, S, M, Q =>
    match qfetch cd pc with
    | some (npc, op, x, t, u, tb) => wp1 X d op x t u tb npc L S M Q (fun pc' L' S' M' => match qcut cuts pc' with
      | some mask => V X (d + 1) m pc' (qmask mask L') S' M' Q
      | none => wpn X d m cd cuts n pc' L' S' M' Q)
    | none => False
end
section
/-! what an entry of a code list must be, by the machine's own decode -/
def qcc : Jvm.ClassFile.Cond → Nat
  | .eq => 0 | .ne => 1 | .lt => 2 | .ge => 3 | .gt => 4 | .le => 5
def hasM (o j kd t : Nat) : Bool := (qML.getD o []).any (fun e => Nat.beq e.1 j && Nat.beq e.2.1 kd && Nat.beq e.2.2.1 t)
def hasF (o j ci t : Nat) : Bool := (qFL.getD o []).any (fun e => Nat.beq e.1 j && Nat.beq e.2.1 ci && Nat.beq e.2.2.1 t)
def hasC (o j : Nat) (x : Int32) : Bool := (qCL.getD o []).any (fun e => Nat.beq e.1 j && decide (e.2.1 = x))
def hasL (o j t : Nat) : Bool := (qLL.getD o []).any (fun e => Nat.beq e.1 j && Nat.beq e.2.1 t)
def hasS (o j t : Nat) : Bool := (qSL.getD o []).any (fun e => Nat.beq e.1 j && Nat.beq e.2 t)
def swTab (pc : Nat) (lo : Int) (offs : List Int) : List (Int32 × Nat) → Bool
  | [] => offs.isEmpty
  | (v, g) :: r => match offs with
    | [] => false
    | f :: fs => decide (v.toInt = lo) && decide ((pc : Int) + f = (g : Int)) && swTab pc (lo + 1) fs r
def swLook (pc : Nat) : List (Int × Int) → List (Int32 × Nat) → Bool
  | [], [] => true
  | (a, f) :: ps, (v, g) :: r => decide (v.toInt = a) && decide ((pc : Int) + f = (g : Int)) && swLook pc ps r
  | _, _ => false
def ck1 (o : Nat) (r : Option FieldType) (n pc : Nat) (i : Instr) (len op : Nat) (x : Int32) (t u : Nat) (tb : List (Int32 × Nat)) : Bool :=
  match i with
  | .iconst z => decide (len = 1) && decide (op = 0) && decide (Int32.ofInt z = x)
  | .bipush z => decide (len = 2) && decide (op = 0) && decide ((Int8.ofInt z).toInt32 = x)
  | .sipush z => decide (len = 3) && decide (op = 0) && decide ((Int16.ofInt z).toInt32 = x)
  | .ldc j => decide (len = 2) && ((decide (op = 0) && hasC o j x) || (decide (op = 41) && hasS o j t && decide (t < 24)))
  | .ldc_w j => decide (len = 3) && decide (op = 0) && hasC o j x
  | .ldc2_w j => decide (len = 3) && decide (op = 42) && hasL o j t
  | .lconst z => decide (len = 1) && decide (op = 42) && decide (z.val = t)
  | .aconst_null => decide (len = 1) && decide (op = 43)
  | .iload_n z => decide (len = 1) && decide (op = 1) && decide (z.val = t)
  | .iload z => decide (len = 2) && decide (op = 1) && decide (z = t)
  | .aload_n z => decide (len = 1) && decide (op = 2) && decide (z.val = t)
  | .aload z => decide (len = 2) && decide (op = 2) && decide (z = t)
  | .lload_n z => decide (len = 1) && decide (op = 3) && decide (z.val = t)
  | .lload z => decide (len = 2) && decide (op = 3) && decide (z = t)
  | .istore_n z => decide (len = 1) && decide (op = 4) && decide (z.val = t) && decide (t < n)
  | .istore z => decide (len = 2) && decide (op = 4) && decide (z = t) && decide (t < n)
  | .astore_n z => decide (len = 1) && decide (op = 5) && decide (z.val = t) && decide (t < n)
  | .astore z => decide (len = 2) && decide (op = 5) && decide (z = t) && decide (t < n)
  | .lstore_n z => decide (len = 1) && decide (op = 6) && decide (z.val = t) && decide (t + 1 < n)
  | .lstore z => decide (len = 2) && decide (op = 6) && decide (z = t) && decide (t + 1 < n)
  | .iinc z c => decide (len = 3) && decide (op = 7) && decide (z = t) && decide (Int32.ofInt c = x) && decide (t < n)
  | .iadd => decide (len = 1) && decide (op = 8) && decide (t = 0)
  | .isub => decide (len = 1) && decide (op = 8) && decide (t = 1)
  | .imul => decide (len = 1) && decide (op = 8) && decide (t = 2)
  | .iand => decide (len = 1) && decide (op = 8) && decide (t = 3)
  | .ior => decide (len = 1) && decide (op = 8) && decide (t = 4)
  | .ixor => decide (len = 1) && decide (op = 8) && decide (t = 5)
  | .ishl => decide (len = 1) && decide (op = 8) && decide (t = 6)
  | .ishr => decide (len = 1) && decide (op = 8) && decide (t = 7)
  | .iushr => decide (len = 1) && decide (op = 8) && decide (t = 8)
  | .idiv => decide (len = 1) && decide (op = 9)
  | .irem => decide (len = 1) && decide (op = 10)
  | .ladd => decide (len = 1) && decide (op = 11) && decide (t = 0)
  | .lmul => decide (len = 1) && decide (op = 11) && decide (t = 1)
  | .lrem => decide (len = 1) && decide (op = 12)
  | .i2l => decide (len = 1) && decide (op = 13)
  | .l2i => decide (len = 1) && decide (op = 14)
  | .dup => decide (len = 1) && decide (op = 15)
  | .dup2 => decide (len = 1) && decide (op = 16)
  | .pop => decide (len = 1) && decide (op = 17)
  | .goto f => decide (len = 3) && decide (op = 18) && decide ((pc : Int) + f = (t : Int))
  | .ifCond c f => decide (len = 3) && decide (op = 19) && decide (qcc c = u) && decide ((pc : Int) + f = (t : Int))
  | .if_icmp c f => decide (len = 3) && decide (op = 20) && decide (qcc c = u) && decide ((pc : Int) + f = (t : Int))
  | .ifnull f => decide (len = 3) && decide (op = 21) && decide ((pc : Int) + f = (t : Int))
  | .ifnonnull f => decide (len = 3) && decide (op = 22) && decide ((pc : Int) + f = (t : Int))
  | .tableswitch df lo hi offs => decide (op = 23) && decide ((pc : Int) + df = (t : Int)) && decide (hi - lo + 1 = (offs.toList.length : Int)) && swTab pc lo offs.toList tb
  | .lookupswitch df ps => decide (op = 23) && decide ((pc : Int) + df = (t : Int)) && ((ps.toList.zip (ps.toList.drop 1)).all (fun (a, next) => a.1 < next.1)) && swLook pc ps.toList tb
  | .getfield j => decide (len = 3) && decide (op = 24) && hasF o j u t
  | .putfield j => decide (len = 3) && decide (op = 25) && hasF o j u t && !(qT u t).2.2.2
  | .iaload => decide (len = 1) && decide (op = 26)
  | .iastore => decide (len = 1) && decide (op = 27)
  | .baload => decide (len = 1) && decide (op = 28)
  | .bastore => decide (len = 1) && decide (op = 29)
  | .laload => decide (len = 1) && decide (op = 30)
  | .lastore => decide (len = 1) && decide (op = 31)
  | .aaload => decide (len = 1) && decide (op = 32)
  | .arraylength => decide (len = 1) && decide (op = 33)
  | .ireturn => decide (len = 1) && ((decide (op = 34) && decide (r = some .int)) || (decide (op = 35) && decide (r = some .boolean)))
  | .lreturn => decide (len = 1) && decide (op = 36) && decide (r = some .long)
  | .return_ => decide (len = 1) && decide (op = 37) && decide (r = none)
  | .invokestatic j => decide (len = 3) && ((decide (op = 38) && (hasM o j 1 t || hasM o j 2 t) && decide (t < qNM) && decide (u = (qmw t).2.1)) || (decide (op = 39) && ((decide (t = 0) && hasM o j 10 0) || (decide (t = 1) && hasM o j 11 0) || (decide (t = 2) && hasM o j 12 0))) || (decide (op = 40) && hasM o j 13 0))
  | .invokevirtual j => decide (len = 3) && decide (op = 44) && hasM o j 0 t && decide (t < qNM) && decide (u = (qmw t).2.1 + 1) && decide ((tb.getD 0 (0, 0)).2 = qow t)
  | _ => false
def chk (m : Nat) (b : ByteArray) (o : Nat) (e : En) : Bool :=
  match decode b e.1 with
  | .ok (i, len) => decide (e.2.1 = e.1 + len) && ck1 o (qrt m) (qml m) e.1 i len e.2.2.1 e.2.2.2.1 e.2.2.2.2.1 e.2.2.2.2.2.1 e.2.2.2.2.2.2
  | _ => false
/-! the tables' rows, opened -/
theorem all_of {α : Type} {l : List α} {f : α → Bool} (h : l.all f = true) {a : α} (ha : a ∈ l) : f a = true := List.all_eq_true.mp h a ha
theorem mem_getD {α : Type} {l : List (List α)} {o : Nat} {e : α} (h : e ∈ l.getD o []) : o < l.length := by
  rcases Nat.lt_or_ge o l.length with h1 | h1
  · exact h1
  · rw [List.getD_eq_getElem?_getD, List.getElem?_eq_none h1] at h
    cases h
theorem hasF_ok {o j ci t : Nat} (h : hasF o j ci t = true) : ci < 12 ∧ t < qN ci ∧ (qT ci t).1 = qcn ci ∧ Cond.fieldLink (qcn o) j (qcn ci) (qT ci t).2.1 (qT ci t).2.2.1 ∈ qgw := by
  unfold hasF at h
  obtain ⟨e, he, hc⟩ := List.any_eq_true.mp h
  simp only [Bool.and_eq_true, Nat.beq_eq] at hc
  obtain ⟨⟨rfl, rfl⟩, rfl⟩ := hc
  have ho : o < 18 := mem_getD he
  have h1 := all_of (all_of qFL_ok (List.mem_range.mpr ho)) he
  simp only [Bool.and_eq_true, decide_eq_true_eq] at h1
  exact ⟨h1.1.1.1, h1.1.1.2, h1.1.2, qgw_of h1.2 rfl⟩
theorem hasC_ok {o j : Nat} {x : Int32} (h : hasC o j x = true) : Cond.constant (qcn o) j x ∈ qgw := by
  unfold hasC at h
  obtain ⟨e, he, hc⟩ := List.any_eq_true.mp h
  simp only [Bool.and_eq_true, Nat.beq_eq, decide_eq_true_eq] at hc
  obtain ⟨rfl, rfl⟩ := hc
  have ho : o < 18 := mem_getD he
  have h1 := all_of (all_of qCL_ok (List.mem_range.mpr ho)) he
  simp only [decide_eq_true_eq] at h1
  exact qgw_of h1 rfl
theorem hasL_ok {o j t : Nat} (h : hasL o j t = true) : Cond.constantLong (qcn o) j (Int64.ofNat t) ∈ qgw := by
  unfold hasL at h
  obtain ⟨e, he, hc⟩ := List.any_eq_true.mp h
  simp only [Bool.and_eq_true, Nat.beq_eq] at hc
  obtain ⟨rfl, rfl⟩ := hc
  have ho : o < 18 := mem_getD he
  have h1 := all_of (all_of qLL_ok (List.mem_range.mpr ho)) he
  simp only [decide_eq_true_eq] at h1
  exact qgw_of h1 rfl
theorem hasS_ok {o j t : Nat} (h : hasS o j t = true) : ∃ z : Nat × Nat × String, qST[t]? = some z ∧ z.1 = o ∧ z.2.1 = j := by
  unfold hasS at h
  obtain ⟨e, he, hc⟩ := List.any_eq_true.mp h
  simp only [Bool.and_eq_true, Nat.beq_eq] at hc
  obtain ⟨rfl, rfl⟩ := hc
  have ho : o < 18 := mem_getD he
  have h1 := all_of (all_of qSL_ok (List.mem_range.mpr ho)) he
  simp only [decide_eq_true_eq, Option.map_eq_some_iff] at h1
  obtain ⟨z, hz, hz2⟩ := h1
  exact ⟨z, hz, congrArg Prod.fst hz2, congrArg Prod.snd hz2⟩
def mlk (o j kd t wi : Nat) : Bool := match kd with | 0 => decide (lw_tbl[wi]? = some (.methodLink (qcn o) j (qyn t))) && !(qmw t).1 | 1 => decide (lw_tbl[wi]? = some (.methodLink (qcn o) j (qyn t))) && (qmw t).1 | 2 => decide (Cond.methodLinkNest (qcn o) j (qyn t) "ClayBoots" ∈ qNW) && (qmw t).1 | 10 => decide (lw_tbl[wi]? = some (.methodLink (qcn o) j Lib.Math.max.name)) | 11 => decide (lw_tbl[wi]? = some (.methodLink (qcn o) j Lib.Math.min.name)) | 12 => decide (lw_tbl[wi]? = some (.methodLink (qcn o) j Lib.Math.abs.name)) | 13 => decide (lw_tbl[wi]? = some (.methodLink (qcn o) j arraycopyName)) | _ => false
theorem hasM_ok {o j kd t : Nat} (h : hasM o j kd t = true) : ∃ wi : Nat, mlk o j kd t wi = true := by
  unfold hasM at h
  obtain ⟨e, he, hc⟩ := List.any_eq_true.mp h
  simp only [Bool.and_eq_true, Nat.beq_eq] at hc
  obtain ⟨⟨rfl, rfl⟩, rfl⟩ := hc
  have ho : o < 18 := mem_getD he
  exact ⟨e.2.2.2, all_of (all_of qML_ok (List.mem_range.mpr ho)) he⟩
theorem hasM0 {o j t : Nat} (h : hasM o j 0 t = true) : Cond.methodLink (qcn o) j (qyn t) ∈ qgw ∧ (qmw t).1 = false := by
  obtain ⟨wi, h1⟩ := hasM_ok h
  unfold mlk at h1
  simp only [Bool.and_eq_true, decide_eq_true_eq, Bool.not_eq_true'] at h1
  exact ⟨qgw_of h1.1 rfl, h1.2⟩
theorem hasM1 {o j t : Nat} (h : hasM o j 1 t = true) : Cond.methodLink (qcn o) j (qyn t) ∈ qgw ∧ (qmw t).1 = true := by
  obtain ⟨wi, h1⟩ := hasM_ok h
  unfold mlk at h1
  simp only [Bool.and_eq_true, decide_eq_true_eq] at h1
  exact ⟨qgw_of h1.1 rfl, h1.2⟩
theorem hasM2 {o j t : Nat} (h : hasM o j 2 t = true) : Cond.methodLinkNest (qcn o) j (qyn t) "ClayBoots" ∈ qNW ∧ (qmw t).1 = true := by
  obtain ⟨wi, h1⟩ := hasM_ok h
  unfold mlk at h1
  simp only [Bool.and_eq_true, decide_eq_true_eq] at h1
  exact h1
theorem hasM10 {o j t : Nat} (h : hasM o j 10 t = true) : Cond.methodLink (qcn o) j Lib.Math.max.name ∈ qgw := by
  obtain ⟨wi, h1⟩ := hasM_ok h
  unfold mlk at h1
  simp only [decide_eq_true_eq] at h1
  exact qgw_of h1 rfl
theorem hasM11 {o j t : Nat} (h : hasM o j 11 t = true) : Cond.methodLink (qcn o) j Lib.Math.min.name ∈ qgw := by
  obtain ⟨wi, h1⟩ := hasM_ok h
  unfold mlk at h1
  simp only [decide_eq_true_eq] at h1
  exact qgw_of h1 rfl
theorem hasM12 {o j t : Nat} (h : hasM o j 12 t = true) : Cond.methodLink (qcn o) j Lib.Math.abs.name ∈ qgw := by
  obtain ⟨wi, h1⟩ := hasM_ok h
  unfold mlk at h1
  simp only [decide_eq_true_eq] at h1
  exact qgw_of h1 rfl
theorem hasM13 {o j t : Nat} (h : hasM o j 13 t = true) : Cond.methodLink (qcn o) j arraycopyName ∈ qgw := by
  obtain ⟨wi, h1⟩ := hasM_ok h
  unfold mlk at h1
  simp only [decide_eq_true_eq] at h1
  exact qgw_of h1 rfl
theorem qLW_in {ci : Nat} (h : ci < 12) : ∀ w ∈ u_ws (qcn ci) (qT ci) (qN ci), w ∈ qgw := by
  intro w hw
  unfold u_ws at hw
  obtain ⟨k, hk, rfl⟩ := List.mem_map.mp hw
  have h1 := all_of (all_of qLW_ok (List.mem_range.mpr h)) hk
  simp only [Bool.and_eq_true, decide_eq_true_eq] at h1
  exact qgw_of h1.1 h1.2
theorem qty_in {ci : Nat} (h : ci < 12) : ∀ k, k < qN ci → parseFieldDescriptor (qT ci k).2.2.1 = some (qty ci k) := by
  intro k hk
  have h1 := all_of (all_of qty_ok (List.mem_range.mpr h)) (List.mem_range.mpr hk)
  simpa using h1
theorem qnm_in {ci : Nat} (h : ci < 12) : ∀ a, a < qN ci → ∀ b, b < qN ci → a ≠ b → (qT ci a).2.1 ≠ (qT ci b).2.1 := by
  intro a ha b hb hne
  have h1 := all_of (all_of (all_of qnm_ok (List.mem_range.mpr h)) (List.mem_range.mpr ha)) (List.mem_range.mpr hb)
  simp only [Bool.or_eq_true, beq_iff_eq, decide_eq_true_eq] at h1
  exact h1.resolve_left hne
theorem qcl_at {ci : Nat} (h : ci < 12) : qcl[ci]? = some (qcn ci, qT ci, qN ci) := by
  unfold qcl
  rw [List.getElem?_map, List.getElem?_range h]
  rfl
end
section
/-! the world's list -/
set_option maxRecDepth 100000 in
theorem qPAIRS_nodup : qPAIRS.Nodup := by decide +kernel
theorem nodup_at {α : Type} {l : List α} {i j : Nat} {x : α} (hn : l.Nodup) (hi : l[i]? = some x) (hj : l[j]? = some x) : i = j := by
  obtain ⟨h1, h2⟩ := List.getElem?_eq_some_iff.mp hi
  obtain ⟨h3, h4⟩ := List.getElem?_eq_some_iff.mp hj
  have hp := List.pairwise_iff_getElem.mp hn
  rcases Nat.lt_trichotomy i j with h | h | h
  · exact absurd (h2.trans h4.symm) (hp i j h1 h3 h)
  · exact h
  · exact absurd (h4.trans h2.symm) (hp j i h3 h1 h)
theorem map_set_at {α β : Type} {l : List α} {f g : α → β} {k : Nat} {x : α} (hk : l[k]? = some x) (hn : l.Nodup) (h : ∀ y ∈ l, y ≠ x → f y = g y) : (l.map f).set k (g x) = l.map g := by
  apply List.ext_getElem?
  intro i
  by_cases hik : k = i
  · subst hik
    have hl : k < (l.map f).length := by rw [List.length_map]; exact (List.getElem?_eq_some_iff.mp hk).1
    rw [List.getElem?_set_self hl, List.getElem?_map, hk]
    rfl
  · rw [List.getElem?_set_ne hik, List.getElem?_map, List.getElem?_map]
    cases hi : l[i]? with
    | none => rfl
    | some y =>
      have hy : y ≠ x := by
        intro hxy
        subst hxy
        exact hik (nodup_at hn hk hi)
      exact congrArg some (h y (List.mem_of_getElem? hi) hy)
theorem wl_get {X : Cx} {M : Mem} {c a : Nat} (h : (c, a) ∈ qPAIRS) : ∃ q0 : Nat, (qwl X M)[q0]? = some (xa X c a, qent X M c a) ∧ qPAIRS[q0]? = some (c, a) := by
  obtain ⟨k, hk⟩ := List.getElem?_of_mem h
  exact ⟨k, by unfold qwl; rw [List.getElem?_map, hk]; rfl, hk⟩
theorem wl_set {X : Cx} {M M' : Mem} {c a q0 : Nat} (hp : qPAIRS[q0]? = some (c, a)) (h : ∀ p ∈ qPAIRS, p ≠ (c, a) → qent X M p.1 p.2 = qent X M' p.1 p.2) : (qwl X M).set q0 (xa X c a, qent X M' c a) = qwl X M' :=
  map_set_at (f := fun p : Nat × Nat => (xa X p.1 p.2, qent X M p.1 p.2)) (g := fun p : Nat × Nat => (xa X p.1 p.2, qent X M' p.1 p.2)) hp qPAIRS_nodup (fun y hy hne => congrArg (Prod.mk _) (h y hy hne))
theorem wl_D {X : Cx} {M : Mem} (h : XD X) : va_D (inW X) (qwl X M) := by
  refine ⟨fun i j p q hi hj hpq => ?_, fun k q hk => ?_⟩
  · unfold qwl at hi hj
    rw [List.getElem?_map, Option.map_eq_some_iff] at hi hj
    obtain ⟨x, hx, rfl⟩ := hi
    obtain ⟨y, hy, rfl⟩ := hj
    have hxy := h x (List.mem_of_getElem? hx) y (List.mem_of_getElem? hy) hpq
    subst hxy
    exact nodup_at qPAIRS_nodup hx hy
  · unfold qwl at hk
    rw [List.getElem?_map, Option.map_eq_some_iff] at hk
    obtain ⟨x, hx, rfl⟩ := hk
    exact ⟨x, List.mem_of_getElem? hx, rfl⟩
theorem st_ne {M : Mem} {c a j c' a' : Nat} {x : Int32} (h : ¬ (c' = c ∧ a' = a)) : (st M c a j x).1 c' a' = M.1 c' a' := by
  funext j'
  show (if c' = c ∧ a' = a ∧ j' = j then x else M.1 c' a' j') = _
  rw [if_neg (fun z => h ⟨z.1, z.2.1⟩)]
theorem st_eq {M : Mem} {c a j : Nat} {x : Int32} : (st M c a j x).1 c a = upd (M.1 c a) j x := by
  funext j'
  show (if c = c ∧ a = a ∧ j' = j then x else M.1 c a j') = (if j' = j then x else M.1 c a j')
  by_cases h : j' = j
  · rw [if_pos h, if_pos ⟨rfl, rfl, h⟩]
  · rw [if_neg h, if_neg (fun z => h z.2.2)]
theorem stL_ne {M : Mem} {c a j c' a' : Nat} {x : Int64} (h : ¬ (c' = c ∧ a' = a)) : (stL M c a j x).2 c' a' = M.2 c' a' := by
  funext j'
  show (if c' = c ∧ a' = a ∧ j' = j then x else M.2 c' a' j') = _
  rw [if_neg (fun z => h ⟨z.1, z.2.1⟩)]
theorem stL_eq {M : Mem} {c a j : Nat} {x : Int64} : (stL M c a j x).2 c a = vp_updL (M.2 c a) j x := by
  funext j'
  show (if c = c ∧ a = a ∧ j' = j then x else M.2 c a j') = (if j' = j then x else M.2 c a j')
  by_cases h : j' = j
  · rw [if_pos h, if_pos ⟨rfl, rfl, h⟩]
  · rw [if_neg h, if_neg (fun z => h z.2.2)]
theorem cpy_ne {M : Mem} {c0 a0 c a sp dp n c' a' : Nat} (h : ¬ (c' = c ∧ a' = a)) : (cpy M c0 a0 c a sp dp n).1 c' a' = M.1 c' a' := by
  funext j'
  show (if c' = c ∧ a' = a ∧ dp ≤ j' ∧ j' < dp + n then _ else M.1 c' a' j') = _
  rw [if_neg (fun z => h ⟨z.1, z.2.1⟩)]
theorem cpy_eq {M : Mem} {c0 a0 c a sp dp n : Nat} : (cpy M c0 a0 c a sp dp n).1 c a = va_cpy (M.1 c0 a0) (M.1 c a) sp dp n := by
  funext j'
  show (if c = c ∧ a = a ∧ dp ≤ j' ∧ j' < dp + n then M.1 c0 a0 (sp + (j' - dp)) else M.1 c a j') = (if dp ≤ j' ∧ j' < dp + n then M.1 c0 a0 (sp + (j' - dp)) else M.1 c a j')
  by_cases h : dp ≤ j' ∧ j' < dp + n
  · rw [if_pos h, if_pos ⟨rfl, rfl, h⟩]
  · rw [if_neg h, if_neg (fun z => h z.2.2)]
/-- a cell depends on its own column and instance alone -/
theorem qent_congr {X : Cx} {M M' : Mem} {c a : Nat} (h1 : M.1 c a = M'.1 c a) (h2 : M.2 c a = M'.2 c a) : qent X M c a = qent X M' c a := by
  have hf : ∀ j f, qfv X M c a j f = qfv X M' c a j f := by
    intro j f
    unfold qfv
    rw [h1]
  unfold qent
  rw [h1, h2]
  split <;> first | rfl | (congr 2; apply List.ext_getElem?; intro i; rw [List.getElem?_mapIdx, List.getElem?_mapIdx]; congr 1; funext f; exact hf i f)
theorem pair_ne {c a c' a' : Nat} (h : (c', a') ≠ (c, a)) : ¬ (c' = c ∧ a' = a) := fun z => h (by rw [z.1, z.2])
theorem wl_st {X : Cx} {M : Mem} {c a j q0 : Nat} {x : Int32} (hp : qPAIRS[q0]? = some (c, a)) : (qwl X M).set q0 (xa X c a, qent X (st M c a j x) c a) = qwl X (st M c a j x) :=
  wl_set hp (fun p _ hne => qent_congr (st_ne (pair_ne hne)).symm rfl)
theorem wl_stL {X : Cx} {M : Mem} {c a j q0 : Nat} {x : Int64} (hp : qPAIRS[q0]? = some (c, a)) : (qwl X M).set q0 (xa X c a, qent X (stL M c a j x) c a) = qwl X (stL M c a j x) :=
  wl_set hp (fun p _ hne => qent_congr rfl (stL_ne (pair_ne hne)).symm)
theorem wl_cpy {X : Cx} {M : Mem} {c0 a0 c a sp dp n q0 : Nat} (hp : qPAIRS[q0]? = some (c, a)) : (qwl X M).set q0 (xa X c a, qent X (cpy M c0 a0 c a sp dp n) c a) = qwl X (cpy M c0 a0 c a sp dp n) :=
  wl_set hp (fun p _ hne => qent_congr (cpy_ne (pair_ne hne)).symm rfl)
/-! forms of a cell -/
theorem ent0 {X : Cx} {M : Mem} {c a : Nat} (h : (qcol c).1 = 0) : qent X M c a = .inr ((qcol c).2.1, (qcol c).2.2.mapIdx (fun j f => qfv X M c a j f)) := by unfold qent; rw [h]; rfl
theorem ent1 {X : Cx} {M : Mem} {c a : Nat} (h : (qcol c).1 = 1) : qent X M c a = .inl (xc X 0, (qcol c).2.1, .inl (M.1 c a)) := by unfold qent; rw [h]; rfl
theorem ent2 {X : Cx} {M : Mem} {c a : Nat} (h : (qcol c).1 = 2) : qent X M c a = .inl (xc X 1, (qcol c).2.1, .inl (M.1 c a)) := by unfold qent; rw [h]; rfl
theorem ent3 {X : Cx} {M : Mem} {c a : Nat} (h : (qcol c).1 = 3) : qent X M c a = .inl (xc X 2, (qcol c).2.1, .inr (.inl (M.2 c a))) := by unfold qent; rw [h]; rfl
theorem ent4 {X : Cx} {M : Mem} {c a : Nat} (h : (qcol c).1 = 4) : qent X M c a = .inl (xc X 3, (qcol c).2.1, .inr (.inr (.inr (.inr (fun i => some (xa X ((qcol c).2.2.getD 0 (0, 0, 0)).2.1 (((qcol c).2.2.getD 0 (0, 0, 0)).2.2 + i))))))) := by unfold qent; rw [h]; rfl
theorem fv_set {X : Cx} {M : Mem} {c a t : Nat} {x : Int32} {fs : List (Nat × Nat × Nat)} {f : Nat × Nat × Nat} (hf : fs[t]? = some f) (h01 : f.1 = 0 ∨ f.1 = 1) : (fs.mapIdx (fun j g => qfv X M c a j g)).set t (.int x) = fs.mapIdx (fun j g => qfv X (st M c a t x) c a j g) := by
  apply List.ext_getElem?
  intro i
  by_cases hti : t = i
  · subst hti
    have hl : t < (fs.mapIdx (fun j g => qfv X M c a j g)).length := by rw [List.length_mapIdx]; exact (List.getElem?_eq_some_iff.mp hf).1
    rw [List.getElem?_set_self hl, List.getElem?_mapIdx, hf]
    show some (Value.int x) = some (qfv X (st M c a t x) c a t f)
    unfold qfv
    rcases h01 with h | h <;> (rw [h, st_eq]; simp [upd])
  · rw [List.getElem?_set_ne hti, List.getElem?_mapIdx, List.getElem?_mapIdx]
    cases fs[i]? with
    | none => rfl
    | some g =>
      show some (qfv X M c a i g) = some (qfv X (st M c a t x) c a i g)
      congr 1
      unfold qfv
      have : (st M c a t x).1 c a i = M.1 c a i := by rw [st_eq]; simp [upd, Ne.symm hti]
      rw [this]
/-! columns' references lead to cells of the world -/
set_option maxRecDepth 100000 in
theorem qREF_ok : qPAIRS.all (fun p => (qcol p.1).2.2.all (fun f => match f.1 with | 2 => Nat.ble 2 f.2.1 && qPAIRS.contains (f.2.1, p.2) | 3 => Nat.ble 2 f.2.1 && qPAIRS.contains (f.2.1, f.2.2) | _ => true)) = true := by decide +kernel
set_option maxRecDepth 100000 in
theorem qREA_ok : qPAIRS.all (fun p => match (qcol p.1).1 with | 4 => (List.range (qcol p.1).2.1).all (fun i => Nat.ble 2 ((qcol p.1).2.2.getD 0 (0, 0, 0)).2.1 && qPAIRS.contains (((qcol p.1).2.2.getD 0 (0, 0, 0)).2.1, ((qcol p.1).2.2.getD 0 (0, 0, 0)).2.2 + i)) | _ => true) = true := by decide +kernel
set_option maxRecDepth 100000 in
theorem qGE_ok : qPAIRS.all (fun p => Nat.ble 2 p.1) = true := by decide +kernel
theorem pair_ge {c a : Nat} (h : (c, a) ∈ qPAIRS) : 2 ≤ c := Nat.le_of_ble_eq_true (all_of qGE_ok h)
theorem ok_pair {c a : Nat} (h : okV (vR c a)) (h2 : 2 ≤ c) : (c, a) ∈ qPAIRS := by
  rcases h with h | ⟨h, -⟩ | h
  · omega
  · omega
  · exact h
theorem tv_pair {X : Cx} {c a : Nat} (h : 2 ≤ c) : tv X (vR c a) = .ref (xa X c a) := by
  obtain ⟨k, rfl⟩ : ∃ k, c = k + 2 := ⟨c - 2, by omega⟩
  rfl
end
section
/-! locals -/
def lvl (X : Cx) (L : Lc) : List (Nat × Value) := (List.range L.length).filterMap (fun i => (L.getD i none).map (fun v => (i, tv X v)))
theorem lvl_mem {X : Cx} {L : Lc} {i : Nat} {w : Value} : (i, w) ∈ lvl X L ↔ ∃ v, L[i]? = some (some v) ∧ w = tv X v := by
  unfold lvl
  rw [List.mem_filterMap]
  constructor
  · rintro ⟨k, hk, h⟩
    rw [Option.map_eq_some_iff] at h
    obtain ⟨v, hv, h⟩ := h
    cases h
    have hl := List.mem_range.mp hk
    refine ⟨v, ?_, rfl⟩
    rw [List.getD_eq_getElem?_getD, List.getElem?_eq_getElem hl] at hv
    rw [List.getElem?_eq_getElem hl]
    exact congrArg some hv
  · rintro ⟨v, hv, rfl⟩
    refine ⟨i, List.mem_range.mpr (List.getElem?_eq_some_iff.mp hv).1, ?_⟩
    rw [List.getD_eq_getElem?_getD, hv]
    rfl
theorem LV.has {X : Cx} {n : Nat} {L : Lc} {ls : Array Slot} (h : LV X n L ls) : lv_has ls n (lvl X L) := by
  refine ⟨h.1, h.2.1, fun q hq => ?_⟩
  obtain ⟨i, w⟩ := q
  obtain ⟨v, hv, rfl⟩ := lvl_mem.mp hq
  exact h.2.2 i v hv
theorem cat_tv {X : Cx} (v : Vl) (h : c1 v = true) : (tv X v).category = 1 := by
  rcases v with x | y | ⟨c, a⟩
  · rfl
  · cases h
  · rcases c with _ | _ | c <;> rfl
theorem qcat_tv {X : Cx} (v : Vl) : (tv X v).category = qcat v := by
  rcases v with x | y | ⟨c, a⟩
  · rfl
  · rfl
  · rcases c with _ | _ | c <;> rfl
theorem cat_two {X : Cx} {v : Vl} (h : ((tv X v).category == 2) = true) : c1 v = false := by
  cases hc : c1 v with
  | false => rfl
  | true => rw [cat_tv v hc] at h; cases h
theorem nl_of {L : Lc} {t i : Nat} {v : Vl} (h : nl L t = true) (hi : i + 1 = t) (hv : L[i]? = some (some v)) : c1 v = true := by
  subst hi
  unfold nl at h
  simp only at h
  rw [List.getD_eq_getElem?_getD, hv] at h
  rcases v with x | y | z
  · rfl
  · cases h
  · rfl
theorem LV.store {X : Cx} {n t : Nat} {L : Lc} {v : Vl} {ls' : Array Slot} (hn : nl L t = true) (h : lv_has ls' n ((t, tv X v) :: (lvl X L).filter (fun q => !(q.1 == t) && !(q.1 + 1 == t && q.2.category == 2)))) : LV X n (L.set t (some v)) ls' := by
  refine ⟨h.1, h.2.1, fun i w hw => ?_⟩
  by_cases hti : t = i
  · subst hti
    have hl : t < L.length := by
      have := (List.getElem?_eq_some_iff.mp hw).1
      rwa [List.length_set] at this
    rw [List.getElem?_set_self hl] at hw
    cases hw
    exact h.2.2 (t, tv X v) List.mem_cons_self
  · rw [List.getElem?_set_ne hti] at hw
    refine h.2.2 (i, tv X w) (List.mem_cons_of_mem _ (List.mem_filter.mpr ⟨lvl_mem.mpr ⟨w, hw, rfl⟩, ?_⟩))
    simp only [Bool.and_eq_true, Bool.not_eq_true', beq_eq_false_iff_ne, ne_eq]
    refine ⟨fun z => hti z.symm, ?_⟩
    by_cases h1 : i + 1 = t
    · have h2 := cat_tv (X := X) w (nl_of hn h1 hw)
      simp [h2]
    · simp [h1]
theorem LV.storeL {X : Cx} {n t : Nat} {L : Lc} {x : Int64} {ls' : Array Slot} (hn : nl L t = true) (h : lv_has ls' n ((t, Value.long x) :: (lvl X L).filter (fun q => !(q.1 == t) && (!(q.1 == t + 1) && !(q.1 + 1 == t && q.2.category == 2))))) : LV X n ((L.set t (some (vJ x))).set (t + 1) none) ls' := by
  refine ⟨h.1, h.2.1, fun i w hw => ?_⟩
  by_cases h1 : t + 1 = i
  · subst h1
    have hl := (List.getElem?_eq_some_iff.mp hw).1
    rw [List.length_set] at hl
    rw [List.getElem?_set_self hl] at hw
    cases hw
  · rw [List.getElem?_set_ne h1] at hw
    by_cases hti : t = i
    · subst hti
      have hl := (List.getElem?_eq_some_iff.mp hw).1
      rw [List.length_set] at hl
      rw [List.getElem?_set_self hl] at hw
      cases hw
      exact h.2.2 (t, tv X (vJ x)) List.mem_cons_self
    · rw [List.getElem?_set_ne hti] at hw
      refine h.2.2 (i, tv X w) (List.mem_cons_of_mem _ (List.mem_filter.mpr ⟨lvl_mem.mpr ⟨w, hw, rfl⟩, ?_⟩))
      simp only [Bool.and_eq_true, Bool.not_eq_true', beq_eq_false_iff_ne, ne_eq]
      refine ⟨fun z => hti z.symm, fun z => h1 z.symm, ?_⟩
      by_cases h3 : i + 1 = t
      · have h2 := cat_tv (X := X) w (nl_of hn h3 hw)
        simp [h2]
      · simp [h3]
theorem okL_set {L : Lc} {t : Nat} {v : Vl} (h : okL L) (hv : okV v) : okL (L.set t (some v)) := by
  intro w hw
  rcases List.mem_or_eq_of_mem_set hw with h1 | h1
  · exact h w h1
  · cases h1
    exact hv
theorem okL_setN {L : Lc} {t : Nat} (h : okL L) : okL (L.set t none) := by
  intro w hw
  rcases List.mem_or_eq_of_mem_set hw with h1 | h1
  · exact h w h1
  · cases h1
theorem okS_cons {v : Vl} {S : List Vl} (hv : okV v) (h : okS S) : okS (v :: S) := by
  intro w hw
  rcases List.mem_cons.mp hw with h1 | h1
  · subst h1
    exact hv
  · exact h w h1
theorem okS_tail {v : Vl} {S : List Vl} (h : okS (v :: S)) : okS S := fun w hw => h w (List.mem_cons_of_mem _ hw)
theorem okS_head {v : Vl} {S : List Vl} (h : okS (v :: S)) : okV v := h v List.mem_cons_self
theorem okL_at {L : Lc} {t : Nat} {v : Vl} (h : okL L) (hv : L.getD t none = some v) : okV v := by
  rw [List.getD_eq_getElem?_getD] at hv
  cases hq : L[t]? with
  | none => rw [hq] at hv; cases hv
  | some o =>
    rw [hq] at hv
    have : o = some v := hv
    subst this
    exact h v (List.mem_of_getElem? hq)
theorem LV_at {X : Cx} {n t : Nat} {L : Lc} {ls : Array Slot} {v : Vl} (h : LV X n L ls) (hv : L.getD t none = some v) : ls[t]? = some (.val (tv X v)) := by
  rw [List.getD_eq_getElem?_getD] at hv
  cases hq : L[t]? with
  | none => rw [hq] at hv; cases hv
  | some o =>
    rw [hq] at hv
    have : o = some v := hv
    subst this
    exact h.2.2 t v hq
theorem lvl_at {X : Cx} {L : Lc} {t : Nat} {v : Vl} (hv : L.getD t none = some v) : ∃ k : Nat, (lvl X L)[k]? = some (t, tv X v) := by
  apply List.getElem?_of_mem
  rw [lvl_mem]
  rw [List.getD_eq_getElem?_getD] at hv
  cases hq : L[t]? with
  | none => rw [hq] at hv; cases hv
  | some o =>
    rw [hq] at hv
    have : o = some v := hv
    subst this
    exact ⟨v, rfl, rfl⟩
theorem V.mask {X : Cx} {d m pc : Nat} {L L' : Lc} {S : List Vl} {M : Mem} {Q : Option Vl → Mem → Prop} (hl : L'.length = L.length) (hs : ∀ (i : Nat) (v : Vl), L'[i]? = some (some v) → L[i]? = some (some v)) (h : V X d m pc L' S M Q) : V X d m pc L S M Q := by
  intro p e s mm args below meth c H locs ls C
  obtain ⟨hm, hG, hP, hS, hL, hll, hoL, hoS⟩ := C
  refine h p e s mm args below meth c H locs ls ⟨hm, hG, hP, hS, ⟨hL.1, hL.2.1, fun i v hv => hL.2.2 i v (hs i v hv)⟩, hl.trans hll, ?_, hoS⟩
  intro v hv
  obtain ⟨i, hi⟩ := List.getElem?_of_mem hv
  exact hoL v (List.mem_of_getElem? (hs i v hi))
theorem qmask_len : ∀ (b : List Bool) (L : Lc), (qmask b L).length = L.length
  | [], L => by cases L <;> rfl
  | true :: b, [] => rfl
  | false :: b, [] => rfl
  | true :: b, o :: L => by
    show (qmask b L).length + 1 = L.length + 1
    rw [qmask_len b L]
  | false :: b, o :: L => by
    show (qmask b L).length + 1 = L.length + 1
    rw [qmask_len b L]
theorem qmask_sub : ∀ (b : List Bool) (L : Lc) (i : Nat) (v : Vl), (qmask b L)[i]? = some (some v) → L[i]? = some (some v)
  | [], L, i, v, h => by cases L <;> exact h
  | true :: b, [], i, v, h => h
  | false :: b, [], i, v, h => h
  | true :: b, o :: L, 0, v, h => h
  | true :: b, o :: L, i + 1, v, h => by
    have h1 : (qmask b L)[i]? = some (some v) := by simpa [qmask] using h
    simpa using qmask_sub b L i v h1
  | false :: b, o :: L, 0, v, h => by simp [qmask] at h
  | false :: b, o :: L, i + 1, v, h => by
    have h1 : (qmask b L)[i]? = some (some v) := by simpa [qmask] using h
    simpa using qmask_sub b L i v h1
/-! the shapes of a stack -/
theorem tI_of {S : List Vl} {f : Int32 → List Vl → Prop} (h : tI S f) : ∃ x S', S = vI x :: S' ∧ f x S' := by
  unfold tI at h
  split at h
  · exact ⟨_, _, rfl, h⟩
  · exact h.elim
theorem tJ_of {S : List Vl} {f : Int64 → List Vl → Prop} (h : tJ S f) : ∃ x S', S = vJ x :: S' ∧ f x S' := by
  unfold tJ at h
  split at h
  · exact ⟨_, _, rfl, h⟩
  · exact h.elim
theorem tR_of {S : List Vl} {f : Nat → Nat → List Vl → Prop} (h : tR S f) : ∃ c a S', S = vR c a :: S' ∧ f c a S' := by
  unfold tR at h
  split at h
  · exact ⟨_, _, _, rfl, h⟩
  · exact h.elim
theorem tII_of {S : List Vl} {f : Int32 → Int32 → List Vl → Prop} (h : tII S f) : ∃ x y S', S = vI y :: vI x :: S' ∧ f x y S' := by
  unfold tII at h
  split at h
  · exact ⟨_, _, _, rfl, h⟩
  · exact h.elim
theorem tJJ_of {S : List Vl} {f : Int64 → Int64 → List Vl → Prop} (h : tJJ S f) : ∃ x y S', S = vJ y :: vJ x :: S' ∧ f x y S' := by
  unfold tJJ at h
  split at h
  · exact ⟨_, _, _, rfl, h⟩
  · exact h.elim
theorem tIR_of {S : List Vl} {f : Nat → Nat → Int32 → List Vl → Prop} (h : tIR S f) : ∃ c a i S', S = vI i :: vR c a :: S' ∧ f c a i S' := by
  unfold tIR at h
  split at h
  · exact ⟨_, _, _, _, rfl, h⟩
  · exact h.elim
theorem tXR_of {S : List Vl} {f : Nat → Nat → Int32 → List Vl → Prop} (h : tXR S f) : ∃ c a i S', S = vI i :: vR c a :: S' ∧ f c a i S' := by
  unfold tXR at h
  split at h
  · exact ⟨_, _, _, _, rfl, h⟩
  · exact h.elim
theorem tIIR_of {S : List Vl} {f : Nat → Nat → Int32 → Int32 → List Vl → Prop} (h : tIIR S f) : ∃ c a i x S', S = vI x :: vI i :: vR c a :: S' ∧ f c a i x S' := by
  unfold tIIR at h
  split at h
  · exact ⟨_, _, _, _, _, rfl, h⟩
  · exact h.elim
theorem tJIR_of {S : List Vl} {f : Nat → Nat → Int32 → Int64 → List Vl → Prop} (h : tJIR S f) : ∃ c a i x S', S = vJ x :: vI i :: vR c a :: S' ∧ f c a i x S' := by
  unfold tJIR at h
  split at h
  · exact ⟨_, _, _, _, _, rfl, h⟩
  · exact h.elim
theorem tCP_of {S : List Vl} {f : Nat → Nat → Nat → Nat → Int32 → Int32 → Int32 → List Vl → Prop} (h : tCP S f) : ∃ c0 a0 c a sp dp n S', S = vI n :: vI dp :: vR c a :: vI sp :: vR c0 a0 :: S' ∧ f c0 a0 c a sp dp n S' := by
  unfold tCP at h
  split at h
  · exact ⟨_, _, _, _, _, _, _, _, rfl, h⟩
  · exact h.elim
theorem gI_of {o : Option Vl} {f : Int32 → Prop} (h : gI o f) : ∃ v, o = some (vI v) ∧ f v := by
  unfold gI at h
  split at h
  · exact ⟨_, rfl, h⟩
  · exact h.elim
theorem gR_of {o : Option Vl} {f : Nat → Nat → Prop} (h : gR o f) : ∃ c a, o = some (vR c a) ∧ f c a := by
  unfold gR at h
  split at h
  · exact ⟨_, _, rfl, h⟩
  · exact h.elim
theorem gJ_of {o : Option Vl} {f : Int64 → Prop} (h : gJ o f) : ∃ v, o = some (vJ v) ∧ f v := by
  unfold gJ at h
  split at h
  · exact ⟨_, rfl, h⟩
  · exact h.elim
theorem bB_of {b : Bool} {p : Prop} (h : bB b p) : b = true ∧ p := by
  unfold bB at h
  split at h
  · exact ⟨rfl, h⟩
  · exact h.elim
end
section
/-! an instruction that changes the stack alone -/
theorem V.step {X : Cx} {d m pc pc' : Nat} {L : Lc} {S S' : List Vl} {M : Mem} {Q : Option Vl → Mem → Prop} (hok : okL L → okS S → okS S')
    (row : ∀ (p : Program) (e : Env) (s : State) (mm : MethodId) (args : Array Value) (below : List Frame) (meth : Method) (c : Code) (H : Heap) (locs : List Loc) (ls : Array Slot) (Z : State → Prop), MC m p s mm args meth c → Gd X s s.heap → Rp X M H → va_S (inW X) s.heap H locs → LV X (qml m) L ls → okL L → okS S →
      W p (xl X) e (rmm d) s mm args below meth c H locs 0 0 Z (F0 mm pc' ls (S'.map (tv X))) → W p (xl X) e (rmm d) s mm args below meth c H locs 0 0 Z (F0 mm pc ls (S.map (tv X))))
    (h : V X d m pc' L S' M Q) : V X d m pc L S M Q := by
  intro p e s mm args below meth c H locs ls C
  obtain ⟨hm, hG, hP, hS, hL, hl, hoL, hoS⟩ := C
  exact row p e s mm args below meth c H locs ls _ hm hG hP hS hL hoL hoS (h p e s mm args below meth c H locs ls ⟨hm, hG, hP, hS, hL, hl, hoL, hok hoL hoS⟩)
theorem V.two {X : Cx} {d m pc p1 p2 : Nat} {L : Lc} {S S' : List Vl} {M : Mem} {Q : Option Vl → Mem → Prop} {A B : Prop} (hok : okS S → okS S')
    (row : ∀ (p : Program) (e : Env) (s : State) (mm : MethodId) (args : Array Value) (below : List Frame) (meth : Method) (c : Code) (H : Heap) (locs : List Loc) (ls : Array Slot) (Z : State → Prop), MC m p s mm args meth c →
      (A → W p (xl X) e (rmm d) s mm args below meth c H locs 0 0 Z (F0 mm p1 ls (S'.map (tv X)))) → (B → W p (xl X) e (rmm d) s mm args below meth c H locs 0 0 Z (F0 mm p2 ls (S'.map (tv X)))) → W p (xl X) e (rmm d) s mm args below meth c H locs 0 0 Z (F0 mm pc ls (S.map (tv X))))
    (h1 : A → V X d m p1 L S' M Q) (h2 : B → V X d m p2 L S' M Q) : V X d m pc L S M Q := by
  intro p e s mm args below meth c H locs ls C
  obtain ⟨hm, hG, hP, hS, hL, hl, hoL, hoS⟩ := C
  exact row p e s mm args below meth c H locs ls _ hm (fun z => h1 z p e s mm args below meth c H locs ls ⟨hm, hG, hP, hS, hL, hl, hoL, hok hoS⟩) (fun z => h2 z p e s mm args below meth c H locs ls ⟨hm, hG, hP, hS, hL, hl, hoL, hok hoS⟩)
/-! an instruction that changes a local -/
theorem V.loc {X : Cx} {d m pc pc' : Nat} {L L' : Lc} {S S' : List Vl} {M : Mem} {Q : Option Vl → Mem → Prop} (hlen : L'.length = L.length) (hok : okL L → okS S → okL L' ∧ okS S')
    (row : ∀ (p : Program) (e : Env) (s : State) (mm : MethodId) (args : Array Value) (below : List Frame) (meth : Method) (c : Code) (H : Heap) (locs : List Loc) (ls : Array Slot) (Z : State → Prop), MC m p s mm args meth c → LV X (qml m) L ls →
      (∀ ls', LV X (qml m) L' ls' → W p (xl X) e (rmm d) s mm args below meth c H locs 0 0 Z (F0 mm pc' ls' (S'.map (tv X)))) → W p (xl X) e (rmm d) s mm args below meth c H locs 0 0 Z (F0 mm pc ls (S.map (tv X))))
    (h : V X d m pc' L' S' M Q) : V X d m pc L S M Q := by
  intro p e s mm args below meth c H locs ls C
  obtain ⟨hm, hG, hP, hS, hL, hl, hoL, hoS⟩ := C
  obtain ⟨o1, o2⟩ := hok hoL hoS
  exact row p e s mm args below meth c H locs ls _ hm hL (fun ls' hL' => h p e s mm args below meth c H locs ls' ⟨hm, hG, hP, hS, hL', hlen.trans hl, o1, o2⟩)
/-! an instruction that changes the memory -/
theorem V.mem {X : Cx} {d m pc pc' : Nat} {L : Lc} {S S' : List Vl} {M M' : Mem} {Q : Option Vl → Mem → Prop} (hok : okS S → okS S')
    (row : ∀ (p : Program) (e : Env) (s : State) (mm : MethodId) (args : Array Value) (below : List Frame) (meth : Method) (c : Code) (H : Heap) (locs : List Loc) (ls : Array Slot) (Z : State → Prop), MC m p s mm args meth c → Gd X s s.heap → Rp X M H → va_S (inW X) s.heap H locs → LV X (qml m) L ls → okS S →
      (∀ H1 locs1, Rp X M' H1 → va_S (inW X) s.heap H1 locs1 → W p (xl X) e (rmm d) s mm args below meth c H1 locs1 0 0 Z (F0 mm pc' ls (S'.map (tv X)))) → W p (xl X) e (rmm d) s mm args below meth c H locs 0 0 Z (F0 mm pc ls (S.map (tv X))))
    (h : V X d m pc' L S' M' Q) : V X d m pc L S M Q := by
  intro p e s mm args below meth c H locs ls C
  obtain ⟨hm, hG, hP, hS, hL, hl, hoL, hoS⟩ := C
  exact row p e s mm args below meth c H locs ls _ hm hG hP hS hL hoS (fun H1 locs1 hP1 hS1 => h p e s mm args below meth c H1 locs1 ls ⟨hm, hG, hP1, hS1, hL, hl, hoL, hok hoS⟩)
theorem s_cnd {X : Cx} {d m pc t : Nat} {L : Lc} {S' : List Vl} {M : Mem} {Q : Option Vl → Mem → Prop} {cd : Jvm.ClassFile.Cond} {f : Int} {a b : Int32} (hd : decode (qbt m) pc = .ok (.if_icmp cd f, 3)) (ht : (pc : Int) + f = (t : Int))
    (h : cnd (qcc cd) a b (V X d m t L S' M Q) (V X d m (pc + 3) L S' M Q)) : V X d m pc L (vI b :: vI a :: S') M Q := by
  have hok : okS (vI b :: vI a :: S') → okS S' := fun h => okS_tail (okS_tail h)
  cases cd
  · exact V.two hok (fun p e s mm args below meth c H locs ls Z hm k1 k2 => lv_icmp_eq hm.1 hm.2.1 hd ht k1 k2) h.1 h.2
  · exact V.two hok (fun p e s mm args below meth c H locs ls Z hm k1 k2 => lv_icmp_ne hm.1 hm.2.1 hd ht k1 k2) h.1 h.2
  · exact V.two hok (fun p e s mm args below meth c H locs ls Z hm k1 k2 => lv_icmp_lt hm.1 hm.2.1 hd ht k1 k2) h.1 h.2
  · exact V.two hok (fun p e s mm args below meth c H locs ls Z hm k1 k2 => lv_icmp_ge hm.1 hm.2.1 hd ht k1 k2) h.1 h.2
  · exact V.two hok (fun p e s mm args below meth c H locs ls Z hm k1 k2 => lv_icmp_gt hm.1 hm.2.1 hd ht k1 k2) h.1 h.2
  · exact V.two hok (fun p e s mm args below meth c H locs ls Z hm k1 k2 => lv_icmp_le hm.1 hm.2.1 hd ht k1 k2) h.1 h.2
theorem s_if {X : Cx} {d m pc t : Nat} {L : Lc} {S' : List Vl} {M : Mem} {Q : Option Vl → Mem → Prop} {cd : Jvm.ClassFile.Cond} {f : Int} {a : Int32} (hd : decode (qbt m) pc = .ok (.ifCond cd f, 3)) (ht : (pc : Int) + f = (t : Int))
    (h : cnd (qcc cd) a 0 (V X d m t L S' M Q) (V X d m (pc + 3) L S' M Q)) : V X d m pc L (vI a :: S') M Q := by
  have hok : okS (vI a :: S') → okS S' := fun h => okS_tail h
  cases cd
  · exact V.two hok (fun p e s mm args below meth c H locs ls Z hm k1 k2 => lv_if_eq hm.1 hm.2.1 hd ht k1 k2) h.1 h.2
  · exact V.two hok (fun p e s mm args below meth c H locs ls Z hm k1 k2 => lv_if_ne hm.1 hm.2.1 hd ht k1 k2) h.1 h.2
  · exact V.two hok (fun p e s mm args below meth c H locs ls Z hm k1 k2 => lv_if_lt hm.1 hm.2.1 hd ht k1 k2) h.1 h.2
  · exact V.two hok (fun p e s mm args below meth c H locs ls Z hm k1 k2 => lv_if_ge hm.1 hm.2.1 hd ht k1 k2) h.1 h.2
  · exact V.two hok (fun p e s mm args below meth c H locs ls Z hm k1 k2 => lv_if_gt hm.1 hm.2.1 hd ht k1 k2) h.1 h.2
  · exact V.two hok (fun p e s mm args below meth c H locs ls Z hm k1 k2 => lv_if_le hm.1 hm.2.1 hd ht k1 k2) h.1 h.2
theorem swt_tab {X : Cx} {a : Int32} {k : Nat → Prop} {t pc : Nat} : ∀ (tb : List (Int32 × Nat)) (lo : Int) (offs : List Int), swTab pc lo offs tb = true → swt a k t tb →
    (∃ (i g : Nat) (f : Int), a.toInt = lo + i ∧ offs[i]? = some f ∧ (pc : Int) + f = (g : Int) ∧ k g) ∨ ((a.toInt < lo ∨ lo + offs.length ≤ a.toInt) ∧ k t)
  | [], lo, offs, h, hs => by
    unfold swTab at h
    have : offs = [] := List.isEmpty_iff.mp h
    subst this
    right
    refine ⟨?_, hs⟩
    simp
    omega
  | (v, g) :: r, lo, [], h, hs => by simp [swTab] at h
  | (v, g) :: r, lo, f :: fs, h, hs => by
    simp only [swTab, Bool.and_eq_true, decide_eq_true_eq] at h
    obtain ⟨⟨h1, h2⟩, h3⟩ := h
    obtain ⟨s1, s2⟩ := hs
    by_cases hav : a = v
    · left
      subst hav
      exact ⟨0, g, f, by omega, rfl, h2, s1 rfl⟩
    · have hne : a.toInt ≠ lo := fun z => hav (Int32.toInt_inj.mp (z.trans h1.symm))
      rcases swt_tab (X := X) r (lo + 1) fs h3 (s2 hav) with ⟨i, g', f', q1, q2, q3, q4⟩ | ⟨q1, q2⟩
      · left
        refine ⟨i + 1, g', f', by push_cast; omega, ?_, q3, q4⟩
        simpa using q2
      · right
        refine ⟨?_, q2⟩
        simp only [List.length_cons]
        push_cast
        omega
theorem swt_look {a : Int32} {k : Nat → Prop} {t pc : Nat} {df : Int} (hdf : (pc : Int) + df = (t : Int)) : ∀ (ps : List (Int × Int)) (tb : List (Int32 × Nat)), swLook pc ps tb = true → swt a k t tb → ∃ (g : Nat) (f : Int), Op.lookupswitch.offset ps df a.toInt = f ∧ (pc : Int) + f = (g : Int) ∧ k g
  | [], [], _, hs => ⟨t, df, rfl, hdf, hs⟩
  | [], _ :: _, h, _ => by simp [swLook] at h
  | _ :: _, [], h, _ => by simp [swLook] at h
  | (x, f) :: ps, (v, g) :: r, h, hs => by
    simp only [swLook, Bool.and_eq_true, decide_eq_true_eq] at h
    obtain ⟨⟨h1, h2⟩, h3⟩ := h
    obtain ⟨s1, s2⟩ := hs
    by_cases hav : a = v
    · subst hav
      refine ⟨g, f, ?_, h2, s1 rfl⟩
      simp [Op.lookupswitch.offset, h1]
    · obtain ⟨g', f', q1, q2, q3⟩ := swt_look hdf ps r h3 (s2 hav)
      exact ⟨g', f', by rw [lv_osw hav h1]; exact q1, q2, q3⟩
end
section
/-! calls -/
theorem gw_good : ∀ w ∈ qgw, (w.onTables && w.keeps) = true ∨ ∃ ty, w = .arrayClass ty := fun w h => good_of_word (List.mem_filter.mp h).2
theorem map_at {α β : Type} {f g : α → β} : ∀ {l : List α}, l.map f = l.map g → ∀ a ∈ l, f a = g a
  | [], _, a, h => by cases h
  | b :: l, he, a, h => by
    simp only [List.map_cons, List.cons.injEq] at he
    rcases List.mem_cons.mp h with h1 | h1
    · subst h1; exact he.1
    · exact map_at he.2 a h1
theorem code_at {m : Nat} (h : m < qNM) : lw_tbl[(qmw m).2.2.1]? = some (Cond.code (qyn m) (qbt m) (qml m) (qrt m)) := by
  have h : m < 277 := h
  have key : ∀ (b : Nat) (l : List Nat), (∀ i, i < 20 → b + i < 277 → b + i ∈ l) → b ≤ m → m < b + 20 → m ∈ l := fun b l hl h1 h2 => by
    have h3 := hl (m - b) (by omega) (by omega)
    rwa [show b + (m - b) = m by omega] at h3
  by_cases h0 : m < 20
  · exact map_at qMC0 m (key 0 _ (by decide) (by omega) (by omega))
  by_cases h1 : m < 40
  · exact map_at qMC1 m (key 20 _ (by decide) (by omega) (by omega))
  by_cases h2 : m < 60
  · exact map_at qMC2 m (key 40 _ (by decide) (by omega) (by omega))
  by_cases h3 : m < 80
  · exact map_at qMC3 m (key 60 _ (by decide) (by omega) (by omega))
  by_cases h4 : m < 100
  · exact map_at qMC4 m (key 80 _ (by decide) (by omega) (by omega))
  by_cases h5 : m < 120
  · exact map_at qMC5 m (key 100 _ (by decide) (by omega) (by omega))
  by_cases h6 : m < 140
  · exact map_at qMC6 m (key 120 _ (by decide) (by omega) (by omega))
  by_cases h7 : m < 160
  · exact map_at qMC7 m (key 140 _ (by decide) (by omega) (by omega))
  by_cases h8 : m < 180
  · exact map_at qMC8 m (key 160 _ (by decide) (by omega) (by omega))
  by_cases h9 : m < 200
  · exact map_at qMC9 m (key 180 _ (by decide) (by omega) (by omega))
  by_cases h10 : m < 220
  · exact map_at qMC10 m (key 200 _ (by decide) (by omega) (by omega))
  by_cases h11 : m < 240
  · exact map_at qMC11 m (key 220 _ (by decide) (by omega) (by omega))
  by_cases h12 : m < 260
  · exact map_at qMC12 m (key 240 _ (by decide) (by omega) (by omega))
  · exact map_at qMC13 m (key 260 _ (by decide) (by omega) (by omega))
theorem code_gw {m : Nat} (h : m < qNM) : Cond.code (qyn m) (qbt m) (qml m) (qrt m) ∈ qgw := qgw_of (code_at h) rfl
theorem mw_of {m : Nat} (h : m < qNM) : ((qmw m).1 = true → Cond.static (qyn m) ∈ qgw) ∧ ((qmw m).1 = false → Cond.instanceMethod (qyn m) ∈ qgw ∧ Cond.selects (qcn (qow m)) (qyn m) (qyn m) ∈ qgw) ∧ Cond.initialized (qcn (qow m)) ∈ qgw := by
  have h1 := all_of qMW_ok (List.mem_range.mpr h)
  simp only [Bool.and_eq_true, Bool.or_eq_true, decide_eq_true_eq] at h1
  obtain ⟨⟨a1, a2⟩, a3⟩ := h1
  refine ⟨fun z => ?_, fun z => ⟨?_, ?_⟩, qgw_of a3 rfl⟩
  · rw [z] at a1
    exact qgw_of a1 rfl
  · rw [z] at a1
    exact qgw_of a1 rfl
  · rcases a2 with a2 | a2
    · rw [z] at a2; cases a2
    · exact qgw_of a2 rfl
theorem md_of {m : Nat} (h : m < qNM) : (parseMethodDescriptor (qyn m).desc).map (fun d => d.parameters.length) = some (qmw m).2.1 ∧ (qyn m).cls ≠ "java/lang/invoke/MethodHandle" ∧ (qyn m).cls ≠ "java/lang/invoke/VarHandle" ∧ plainName (qyn m).cls = true ∧ qml m ≤ 20 := by
  have h1 := all_of qMD_ok (List.mem_range.mpr h)
  simp only [Bool.and_eq_true, decide_eq_true_eq] at h1
  exact ⟨h1.1.1.1.1, h1.1.1.1.2, h1.1.1.2, h1.1.2, h1.2⟩
theorem good_code {m : Nat} (h : m < qNM) : GoodIn qgw (Cond.code (qyn m) (qbt m) (qml m) (qrt m) :: qgw) := by
  intro w hw
  rcases List.mem_cons.mp hw with h1 | h1
  · subst h1
    exact ⟨code_gw h, gw_good _ (code_gw h)⟩
  · exact ⟨h1, gw_good _ h1⟩
/-- what a call leaves, and how the caller goes on -/
theorem run_W {p : Program} {l : Launch} {e : Env} {R : Room} {s : State} {m : MethodId} {args : Array Value} {below : List Frame} {meth : Method} {c : Code} {H : Heap} {locs : List Loc} {Z : State → Prop} {pc : Nat} {ls : Array Slot} {st0 rest : List Value} {Qa : State → Outcome → State → Prop} {A : Nat → Prop} {H0 : Heap}
    (hr : va_Run p l e R s m args below meth c H locs 0 0 0 0 (F0 m pc ls st0) rest Qa A) (hS : va_S A H0 H locs) (hF : ∀ st o t, Qa st o t → va_F A st t)
    (kk : ∀ (v : Option Value) (st t : State) (H1 : Heap) (locs1 : List Loc), Qa st (.returned v) t → t.heap = H1 → va_S A H0 H1 locs1 → W p l e R s m args below meth c H1 locs1 0 0 Z (F0 m (pc + 3) ls (v.toList ++ rest))) : W p l e R s m args below meth c H locs 0 0 Z (F0 m pc ls st0) := by
  intro T hT X
  obtain ⟨v, st₀, t, T', L, h0, X', hL, e1, e2, hq, st⟩ := hr T hT X
  obtain ⟨hz, hk⟩ := hF _ _ _ hq
  rw [h0] at hz hk
  obtain ⟨t2, a1, b1⟩ := kk v st₀ t T'.heap (locs ++ L) hq e1.symm
    ⟨Nat.le_trans hS.1 (by rw [e1]; exact hz), fun q h1 h2 => by rw [e1, hk q (Nat.lt_of_lt_of_le h1 hS.1) h2]; exact hS.2.1 q h1 h2, fun q hq => by
      rcases List.mem_append.mp hq with h | h
      · exact hS.2.2 q h
      · exact hL q h⟩ T' rfl X'
  exact ⟨t2, st t2 a1, b1⟩
theorem cc_blind {X : Cx} {M : Mem} {As : List Value} : FrameBlind (va_Pc As (fun U => Gd X U U.heap ∧ Rp X M U.heap)) := by
  intro a U g mk hq
  obtain ⟨q0, q1, q2⟩ := hq
  exact ⟨q0, Gd.same (s := U) (U := U.calling g mk a) rfl q1, q2⟩
theorem cc_pre {X : Cx} {M : Mem} {As : List Value} {s : State} {H : Heap} {locs : List Loc} (hG : Gd X s s.heap) (hP : Rp X M H) (hS : va_S (inW X) s.heap H locs) : ∀ U : State, U.heap = H → s.WarmedH U.vm → va_Pc As (fun U => Gd X U U.heap ∧ Rp X M U.heap) As.toArray U := by
  intro U hU hW
  refine ⟨rfl, Gd.move hW ?_ hG, by rw [hU]; exact hP⟩
  rw [hU]
  exact hS.2.1
theorem cat_sum {X : Cx} : ∀ (S : List Vl), ((S.map (tv X)).map fun v => v.category).sum = (S.map qcat).sum
  | [] => rfl
  | v :: S => by
    simp only [List.map_cons, List.sum_cons, qcat_tv]
    have := cat_sum (X := X) S
    simp only [List.map_map] at this ⊢
    omega
theorem room_of {m : Nat} (h : m < qNM) (d : Nat) : (rmm d).frames + 1 ≤ (rmm (d + 1)).frames ∧ 8 + (qml m + 11) + (rmm d).locals ≤ (rmm (d + 1)).locals := by
  have := (md_of h).2.2.2.2
  refine ⟨Nat.le_refl _, ?_⟩
  show 8 + (qml m + 11) + (100 * d + 100) ≤ 100 * (d + 1) + 100
  omega
theorem okS_take {S : List Vl} {u : Nat} (h : okS S) : okS (S.take u).reverse := fun v hv => h v (List.mem_of_mem_take (List.mem_reverse.mp hv))
theorem okS_ret {S : List Vl} {u : Nat} {r : Option Vl} (h : okS S) (hr : okR r) : okS (r.toList ++ S.drop u) := by
  intro v hv
  rcases List.mem_append.mp hv with h1 | h1
  · rcases r with _ | w
    · cases h1
    · have : v = w := by simpa using h1
      subst this
      rcases v with x | y | z
      · trivial
      · trivial
      · exact hr.elim
  · exact h v (List.mem_of_mem_drop h1)
theorem lv_room' {m : MethodId} {pc n : Nat} {ls : Array Slot} {rest : List Value} (h : n ≤ 8) : 2 * (F0 m pc ls rest).monitorRoom + n ≤ 8 := by
  show 2 * 0 + n ≤ 8
  omega
theorem s_static {X : Cx} {d m pc j t u : Nat} {L : Lc} {S : List Vl} {M M' : Mem} {r : Option Vl} {Q : Option Vl → Mem → Prop} (hd : decode (qbt m) pc = .ok (.invokestatic j, 3)) (ht : t < qNM) (hu : u = (qmw t).2.1) (hst : (qmw t).1 = true)
    (hl : Cond.methodLink (qcn (qow m)) j (qyn t) ∈ qgw ∨ Cond.methodLinkNest (qcn (qow m)) j (qyn t) "ClayBoots" ∈ qNW) (hul : u ≤ S.length) (hw : ((S.drop u).map qcat).sum ≤ 8) (hc : CC X d t (S.take u).reverse M r M')
    (h : V X (d + 1) m (pc + 3) L (r.toList ++ S.drop u) M' Q) : V X (d + 1) m pc L S M Q := by
  intro p e s mm args below meth c H locs ls C
  obtain ⟨⟨hx, hb, hr, hml, hown, hts, hlk⟩, hG, hP, hS, hL, hll, hoL, hoS⟩ := C
  obtain ⟨hokr, hcc⟩ := hc
  have hM := hcc (okS_take hoS)
  have hlen : ((S.take u).reverse.map (tv X)).length = u := by simp; omega
  have hstk : (F0 mm pc ls (S.map (tv X))).stack = ((S.take u).reverse.map (tv X)).reverse ++ (S.drop u).map (tv X) := by
    show S.map (tv X) = _
    rw [← List.map_reverse, List.reverse_reverse, ← List.map_append, List.take_append_drop]
  have hW : 2 * (F0 mm pc ls (S.map (tv X))).monitorRoom + (((S.drop u).map (tv X)).map fun v => v.category).sum ≤ 8 := by
    rw [cat_sum]
    exact lv_room' hw
  have fin : ∀ (hr : va_Run p (xl X) e (rmm (d + 1)) s mm args below meth c H locs 0 0 0 0 (F0 mm pc ls (S.map (tv X))) ((S.drop u).map (tv X)) ((fun _ st o t => o = .returned (r.map (tv X)) ∧ Rp X M' t.heap ∧ va_F (inW X) st t) ((S.take u).reverse.map (tv X)).toArray) (inW X)), W p (xl X) e (rmm (d + 1)) s mm args below meth c H locs 0 0 (MQ below (QC X Q) args s 0 0 (inW X)) (F0 mm pc ls (S.map (tv X))) := by
    intro hr
    refine run_W hr hS (fun st o t hq => hq.2.2) (fun v st t H1 locs1 hq hH hS1 => ?_)
    obtain ⟨hv, hR, -⟩ := hq
    cases hv
    have := h p e s mm args below meth c H1 locs1 ls ⟨⟨hx, hb, by assumption, hml, hown, hts, hlk⟩, hG, by rw [← hH]; exact hR, hS1, hL, hll, hoL, okS_ret hoS hokr⟩
    cases r with
    | none => simpa using this
    | some w => simpa using this
  have mw := mw_of ht
  have md := md_of ht
  rcases hl with hl | hl
  · exact fin (va_runS (Ts := qgw) (As := (S.take u).reverse.map (tv X)) (bytes := qbt t) (maxL := qml t) (ret := qrt t) ⟨hx, hb, hml, hown, hts⟩ hM ⟨callB_of u hts (good_code ht) rfl rfl rfl (hts _ mw.2.2) (hts _ hl) ⟨md.2.1, md.2.2.1, by rw [md.1, hu]⟩ (room_of ht d), hts _ (mw.1 hst)⟩ ⟨cc_blind, cc_pre hG hP hS⟩ rfl hlen hL.1 hstk hW hd ⟨Nat.le_refl _, Nat.le_refl _⟩)
  · exact fin (va_runSN (Ts := qgw) (As := (S.take u).reverse.map (tv X)) (bytes := qbt t) (maxL := qml t) (ret := qrt t) ⟨hx, hb, hml, hown, hts⟩ hM ⟨va_cnB u hts (good_code ht) rfl rfl rfl (hG.2.2.1 _ hl) (hts _ mw.2.2) ⟨md.2.1, md.2.2.1, by rw [md.1, hu]⟩ (room_of ht d), hts _ (mw.1 hst), trivial⟩ ⟨cc_blind, cc_pre hG hP hS⟩ rfl hlen hL.1 hstk hW hd ⟨Nat.le_refl _, Nat.le_refl _⟩)
theorem s_virtual {X : Cx} {d m pc j t u : Nat} {L : Lc} {S : List Vl} {M M' : Mem} {r : Option Vl} {Q : Option Vl → Mem → Prop} (hd : decode (qbt m) pc = .ok (.invokevirtual j, 3)) (ht : t < qNM) (hu : u = (qmw t).2.1 + 1) (hst : (qmw t).1 = false)
    (hl : Cond.methodLink (qcn (qow m)) j (qyn t) ∈ qgw) (hul : u ≤ S.length) (hw : ((S.drop u).map qcat).sum ≤ 8) (hrv : rcv (qow t) (S.take u).reverse = true) (hc : CC X d t (S.take u).reverse M r M')
    (h : V X (d + 1) m (pc + 3) L (r.toList ++ S.drop u) M' Q) : V X (d + 1) m pc L S M Q := by
  intro p e s mm args below meth c H locs ls C
  obtain ⟨⟨hx, hb, hr, hml, hown, hts, hlk⟩, hG, hP, hS, hL, hll, hoL, hoS⟩ := C
  obtain ⟨hokr, hcc⟩ := hc
  have hok := okS_take (u := u) hoS
  have hM := hcc hok
  have hlen : ((S.take u).reverse).length = u := by simp; omega
  have hstk : (F0 mm pc ls (S.map (tv X))).stack = ((S.take u).reverse.map (tv X)).reverse ++ (S.drop u).map (tv X) := by
    show S.map (tv X) = _
    rw [← List.map_reverse, List.reverse_reverse, ← List.map_append, List.take_append_drop]
  have hW : 2 * (F0 mm pc ls (S.map (tv X))).monitorRoom + (((S.drop u).map (tv X)).map fun v => v.category).sum ≤ 8 := by
    rw [cat_sum]
    exact lv_room' hw
  generalize hA : (S.take u).reverse = A at *
  unfold rcv at hrv
  split at hrv
  · rename_i cc aa As
    have hrec : ∃ b, tv X (vR cc aa) = .ref b ∧ ∃ cell : Cell, H[b]? = some cell ∧ cell.vm.isStatics = false ∧ s.vm.findClass (qcn (qow t)) = some cell.cls := by
      simp only [Bool.or_eq_true, Bool.and_eq_true, Nat.beq_eq] at hrv
      rcases hrv with ⟨⟨h1, h2⟩, h3⟩ | ⟨h1, h2⟩
      · have h1 := Nat.le_of_ble_eq_true h1
        have hp := ok_pair (okS_head hok) h1
        obtain ⟨q0, g1, g2⟩ := wl_get (X := X) (M := M) hp
        rw [ent0 h2] at g1
        obtain ⟨r0, f1, -⟩ := hP q0 _ g1
        rw [h3] at f1 g1
        have hci : qow t < 12 := by
          have := (List.getElem?_eq_some_iff.mp f1).1
          simpa [qcl] using this
        exact ⟨_, tv_pair h1, va_recv hG.2.1 hP (qcl_at hci) g1⟩
      · subst h1
        have h24 : aa < 24 := by
          rcases okS_head hok with h | h | h
          · omega
          · exact h.2
          · exact absurd (pair_ge h) (by omega)
        refine ⟨_, rfl, ?_⟩
        rw [h2]
        exact vk_recv hG.2.2.2.2.1 h24 hS
    obtain ⟨b, hb1, hcell⟩ := hrec
    have fin : ∀ (hr : va_Run p (xl X) e (rmm (d + 1)) s mm args below meth c H locs 0 0 0 0 (F0 mm pc ls (S.map (tv X))) ((S.drop u).map (tv X)) ((fun _ st o t => o = .returned (r.map (tv X)) ∧ Rp X M' t.heap ∧ va_F (inW X) st t) ((Value.ref b :: As.map (tv X))).toArray) (inW X)), W p (xl X) e (rmm (d + 1)) s mm args below meth c H locs 0 0 (MQ below (QC X Q) args s 0 0 (inW X)) (F0 mm pc ls (S.map (tv X))) := by
      intro hr
      refine run_W hr hS (fun st o t hq => hq.2.2) (fun v st t H1 locs1 hq hH hS1 => ?_)
      obtain ⟨hv, hR, -⟩ := hq
      cases hv
      have := h p e s mm args below meth c H1 locs1 ls ⟨⟨hx, hb, by assumption, hml, hown, hts, hlk⟩, hG, by rw [← hH]; exact hR, hS1, hL, hll, hoL, okS_ret hoS hokr⟩
      cases r with
      | none => simpa using this
      | some w => simpa using this
    have mw := mw_of ht
    have md := md_of ht
    have hargs : (vR cc aa :: As).map (tv X) = Value.ref b :: As.map (tv X) := by rw [List.map_cons, hb1]
    rw [hargs] at hM hstk
    have hlen2 : (As.map (tv X)).length = (qmw t).2.1 := by
      rw [List.length_map]
      have : (vR cc aa :: As).length = u := hlen
      simp only [List.length_cons] at this
      omega
    exact fin (va_runV (Ts := qgw) (As := As.map (tv X)) (b := b) (C := qcn (qow t)) (bytes := qbt t) (maxL := qml t) (ret := qrt t) ⟨hx, hb, hml, hown, hts⟩ hM ⟨callB_of _ hts (good_code ht) rfl rfl rfl (hts _ mw.2.2) (hts _ hl) ⟨md.2.1, md.2.2.1, md.1⟩ (room_of ht d), hts _ (mw.2.1 hst).1, hts _ (mw.2.1 hst).2⟩ ⟨cc_blind, hcell, cc_pre hG hP hS⟩ rfl hlen2 hL.1 (by rw [hstk]; simp) hW hd ⟨Nat.le_refl _, Nat.le_refl _⟩)
  · cases hrv
end
section
/-! one instruction: what wp1 asks is enough -/
theorem ok_ref {X : Cx} {c a : Nat} {f : Nat × Nat × Nat} (hp : (c, a) ∈ qPAIRS) (hf : f ∈ (qcol c).2.2) : (f.1 = 2 → 2 ≤ f.2.1 ∧ (f.2.1, a) ∈ qPAIRS) ∧ (f.1 = 3 → 2 ≤ f.2.1 ∧ (f.2.1, f.2.2) ∈ qPAIRS) := by
  have h := all_of (all_of qREF_ok hp) hf
  refine ⟨fun z => ?_, fun z => ?_⟩
  · rw [z] at h
    simp only [Bool.and_eq_true, List.contains_iff_mem] at h
    exact ⟨Nat.le_of_ble_eq_true h.1, h.2⟩
  · rw [z] at h
    simp only [Bool.and_eq_true, List.contains_iff_mem] at h
    exact ⟨Nat.le_of_ble_eq_true h.1, h.2⟩
theorem Rp_get {X : Cx} {M : Mem} {H : Heap} {c a : Nat} (hP : Rp X M H) (hp : (c, a) ∈ qPAIRS) : ∃ q0 : Nat, (qwl X M)[q0]? = some (xa X c a, qent X M c a) ∧ qPAIRS[q0]? = some (c, a) := wl_get hp
theorem cls_lt {X : Cx} {M : Mem} {H : Heap} {c a : Nat} (hP : Rp X M H) (hp : (c, a) ∈ qPAIRS) (h0 : (qcol c).1 = 0) : (qcol c).2.1 < 12 := by
  obtain ⟨q0, g1, g2⟩ := wl_get (X := X) (M := M) hp
  rw [ent0 h0] at g1
  obtain ⟨r0, f1, -⟩ := hP q0 _ g1
  have := (List.getElem?_eq_some_iff.mp f1).1
  simpa [qcl] using this
/-- getfield, whatever the field -/
theorem s_get {X : Cx} {d m pc j u t c a : Nat} {L : Lc} {S : List Vl} {M : Mem} {Q : Option Vl → Mem → Prop} {f : Nat × Nat × Nat} {v : Vl} (hd : decode (qbt m) pc = .ok (.getfield j, 3)) (hF : hasF (qow m) j u t = true) (h2 : 2 ≤ c) (h0 : (qcol c).1 = 0) (hu : (qcol c).2.1 = u) (hf : (qcol c).2.2[t]? = some f)
    (hv : qfv X M c a t f = tv X v) (hov : (c, a) ∈ qPAIRS → okV v) (h : V X d m (pc + 3) L (v :: S) M Q) : V X d m pc L (vR c a :: S) M Q := by
  refine V.step (S' := v :: S) (fun _ ho => okS_cons (hov (ok_pair (okS_head ho) h2)) (okS_tail ho)) ?_ h
  intro p e s mm args below meth cc H locs ls Z hm hG hP hS hL hoL hoS k
  obtain ⟨hx, hb, hr, hml, hown, hts, hlk⟩ := hm
  obtain ⟨f1, f2, f3, f4⟩ := hasF_ok hF
  have hp := ok_pair (okS_head hoS) h2
  obtain ⟨q0, g1, g2⟩ := wl_get (X := X) (M := M) hp
  rw [ent0 h0, hu] at g1
  rw [List.map_cons, tv_pair h2]
  refine va_get hx hb hts (qLW_in f1) hown hG.2.1 hP q0 g1 (qcl_at f1) t f2 (hts _ f4) (fun x hx => by rw [← f3]; exact hx) (v := tv X v) ?_ hd k
  rw [List.getElem?_mapIdx, hf]
  exact congrArg some hv
theorem s_put {X : Cx} {d m pc j u t c a : Nat} {L : Lc} {S : List Vl} {M : Mem} {Q : Option Vl → Mem → Prop} {f : Nat × Nat × Nat} {x : Int32} (hd : decode (qbt m) pc = .ok (.putfield j, 3)) (hF : hasF (qow m) j u t = true) (hfin : (qT u t).2.2.2 = false) (h2 : 2 ≤ c) (h0 : (qcol c).1 = 0) (hu : (qcol c).2.1 = u) (hf : (qcol c).2.2[t]? = some f)
    (h01 : f.1 = 0 ∨ f.1 = 1) (hn : ∃ ty, parseFieldDescriptor (qT u t).2.2.1 = some ty ∧ narrow ty (.int x) = .int x ∧ fits ty (.int x) = true) (h : V X d m (pc + 3) L S (st M c a t x) Q) : V X d m pc L (vI x :: vR c a :: S) M Q := by
  refine V.mem (S' := S) (fun ho => okS_tail (okS_tail ho)) ?_ h
  intro p e s mm args below meth cc H locs ls Z hm hG hP hS hL hoS k
  obtain ⟨hx, hb, hr, hml, hown, hts, hlk⟩ := hm
  obtain ⟨f1, f2, f3, f4⟩ := hasF_ok hF
  obtain ⟨ty, n1, n2, n3⟩ := hn
  have hp := ok_pair (okS_head (okS_tail hoS)) h2
  obtain ⟨q0, g1, g2⟩ := wl_get (X := X) (M := M) hp
  rw [ent0 h0, hu] at g1
  rw [List.map_cons, List.map_cons, tv_pair h2]
  refine va_put hx hb hts (qLW_in f1) (qty u) (qty_in f1) (qnm_in f1) hown hG.2.1 hP (wl_D hG.1) hS q0 g1 (qcl_at f1) t f2 (hts _ f4) (fun x hx => by rw [← f3]; exact hx) hfin (ty := ty) (v := .int x) n1 n2 n3 (by rw [List.length_mapIdx]; exact (List.getElem?_eq_some_iff.mp hf).1) hd (fun H1 locs1 hP1 hD1 hS1 => k H1 locs1 ?_ hS1)
  rw [fv_set hf h01] at hP1
  have e1 : qent X (st M c a t x) c a = .inr (u, (qcol c).2.2.mapIdx (fun j g => qfv X (st M c a t x) c a j g)) := by rw [ent0 h0, hu]
  rw [← e1, wl_st g2] at hP1
  exact hP1
theorem narB {x : Int32} (h : isB x) : narrow .boolean (.int x) = .int x ∧ fits .boolean (.int x) = true ∧ vp_nar .boolean x = x := by
  rcases h with rfl | rfl
  · exact ⟨by decide, by decide, by decide⟩
  · exact ⟨by decide, by decide, by decide⟩

set_option maxRecDepth 100000 in
theorem qTYP_ok : qPAIRS.all (fun p => match (qcol p.1).1 with | 0 => (List.range (qcol p.1).2.2.length).all (fun t => match (qcol p.1).2.2[t]? with | some (0, _, _) => decide (parseFieldDescriptor (qT (qcol p.1).2.1 t).2.2.1 = some .int) | some (1, _, _) => decide (parseFieldDescriptor (qT (qcol p.1).2.1 t).2.2.1 = some .boolean) | _ => true) | _ => true) = true := by decide +kernel
theorem typ_at {c a t : Nat} {f : Nat × Nat × Nat} (hp : (c, a) ∈ qPAIRS) (h0 : (qcol c).1 = 0) (hf : (qcol c).2.2[t]? = some f) : (f.1 = 0 → parseFieldDescriptor (qT (qcol c).2.1 t).2.2.1 = some .int) ∧ (f.1 = 1 → parseFieldDescriptor (qT (qcol c).2.1 t).2.2.1 = some .boolean) := by
  have h := all_of qTYP_ok hp
  simp only [h0] at h
  have h1 := all_of h (List.mem_range.mpr (List.getElem?_eq_some_iff.mp hf).1)
  simp only [hf] at h1
  obtain ⟨k, x, y⟩ := f
  refine ⟨fun z => ?_, fun z => ?_⟩
  · have : k = 0 := z
    subst this
    simpa using h1
  · have : k = 1 := z
    subst this
    simpa using h1
theorem V.okp {X : Cx} {d m pc : Nat} {L : Lc} {S : List Vl} {M : Mem} {Q : Option Vl → Mem → Prop} (h : okS S → V X d m pc L S M Q) : V X d m pc L S M Q := by
  intro p e s mm args below meth c H locs ls C
  exact h C.2.2.2.2.2.2.2 p e s mm args below meth c H locs ls C
theorem inb_vp {i : Int32} {n : Nat} (h : inb i n) : vp_in i n := h
end
section
/-! all instructions -/
theorem s_load {X : Cx} {d m pc pc' t : Nat} {L : Lc} {S : List Vl} {M : Mem} {Q : Option Vl → Mem → Prop} {v : Vl} (hv : L.getD t none = some v)
    (row : ∀ (p : Program) (e : Env) (s : State) (mm : MethodId) (args : Array Value) (below : List Frame) (meth : Method) (c : Code) (H : Heap) (locs : List Loc) (ls : Array Slot) (Z : State → Prop), MC m p s mm args meth c → ls[t]? = some (.val (tv X v)) → W p (xl X) e (rmm d) s mm args below meth c H locs 0 0 Z (F0 mm pc' ls (tv X v :: S.map (tv X))) → W p (xl X) e (rmm d) s mm args below meth c H locs 0 0 Z (F0 mm pc ls (S.map (tv X))))
    (h : V X d m pc' L (v :: S) M Q) : V X d m pc L S M Q :=
  V.step (S' := v :: S) (fun hL hS => okS_cons (okL_at hL hv) hS) (fun p e s mm args below meth c H locs ls Z hm hG hP hS hL hoL hoS k => row p e s mm args below meth c H locs ls Z hm (LV_at hL hv) k) h
theorem s_aload {X : Cx} {d m pc t c a : Nat} {L : Lc} {S : List Vl} {M : Mem} {Q : Option Vl → Mem → Prop} (hv : L.getD t none = some (vR c a)) (len : Nat) (hd : (∃ z : Fin 4, (z : Nat) = t ∧ len = 1 ∧ decode (qbt m) pc = .ok (.aload_n z, 1)) ∨ (len = 2 ∧ decode (qbt m) pc = .ok (.aload t, 2)))
    (h : V X d m (pc + len) L (vR c a :: S) M Q) : V X d m pc L S M Q := by
  rcases c with _ | _ | c
  · rcases hd with ⟨z, hz, rfl, hd⟩ | ⟨rfl, hd⟩
    · exact s_load hv (fun p e s mm args below meth c H locs ls Z hm hl k => lv_aload_nN hm.1 hm.2.1 hd hz hl k) h
    · exact s_load hv (fun p e s mm args below meth c H locs ls Z hm hl k => lv_aloadN hm.1 hm.2.1 hd hl k) h
  · rcases hd with ⟨z, hz, rfl, hd⟩ | ⟨rfl, hd⟩
    · exact s_load hv (fun p e s mm args below meth c H locs ls Z hm hl k => lv_aload_n hm.1 hm.2.1 hd hz hl k) h
    · exact s_load hv (fun p e s mm args below meth c H locs ls Z hm hl k => lv_aload hm.1 hm.2.1 hd hl k) h
  · rcases hd with ⟨z, hz, rfl, hd⟩ | ⟨rfl, hd⟩
    · exact s_load hv (fun p e s mm args below meth c H locs ls Z hm hl k => lv_aload_n hm.1 hm.2.1 hd hz hl k) h
    · exact s_load hv (fun p e s mm args below meth c H locs ls Z hm hl k => lv_aload hm.1 hm.2.1 hd hl k) h
theorem s_astore {X : Cx} {d m pc t c a : Nat} {L : Lc} {S : List Vl} {M : Mem} {Q : Option Vl → Mem → Prop} (hn : nl L t = true) (hlt : t < qml m) (len : Nat) (hd : (∃ z : Fin 4, (z : Nat) = t ∧ len = 1 ∧ decode (qbt m) pc = .ok (.astore_n z, 1)) ∨ (len = 2 ∧ decode (qbt m) pc = .ok (.astore t, 2)))
    (h : V X d m (pc + len) (L.set t (some (vR c a))) S M Q) : V X d m pc L (vR c a :: S) M Q := by
  have ho : okL L → okS (vR c a :: S) → okL (L.set t (some (vR c a))) ∧ okS S := fun h1 h2 => ⟨okL_set h1 (okS_head h2), okS_tail h2⟩
  rcases c with _ | _ | c
  · rcases hd with ⟨z, hz, rfl, hd⟩ | ⟨rfl, hd⟩
    · exact V.loc List.length_set ho (fun p e s mm args below meth c H locs ls Z hm hL k => lv_astore_nN hm.1 hm.2.1 hd hz hL.has hlt rfl (fun ls' h' => k ls' (LV.store hn h'))) h
    · exact V.loc List.length_set ho (fun p e s mm args below meth c H locs ls Z hm hL k => lv_astoreN hm.1 hm.2.1 hd hL.has hlt rfl (fun ls' h' => k ls' (LV.store hn h'))) h
  · rcases hd with ⟨z, hz, rfl, hd⟩ | ⟨rfl, hd⟩
    · exact V.loc List.length_set ho (fun p e s mm args below meth c H locs ls Z hm hL k => lv_astore_n hm.1 hm.2.1 hd hz hL.has hlt rfl (fun ls' h' => k ls' (LV.store hn h'))) h
    · exact V.loc List.length_set ho (fun p e s mm args below meth c H locs ls Z hm hL k => lv_astore hm.1 hm.2.1 hd hL.has hlt rfl (fun ls' h' => k ls' (LV.store hn h'))) h
  · rcases hd with ⟨z, hz, rfl, hd⟩ | ⟨rfl, hd⟩
    · exact V.loc List.length_set ho (fun p e s mm args below meth c H locs ls Z hm hL k => lv_astore_n hm.1 hm.2.1 hd hz hL.has hlt rfl (fun ls' h' => k ls' (LV.store hn h'))) h
    · exact V.loc List.length_set ho (fun p e s mm args below meth c H locs ls Z hm hL k => lv_astore hm.1 hm.2.1 hd hL.has hlt rfl (fun ls' h' => k ls' (LV.store hn h'))) h
theorem s_istore {X : Cx} {d m pc t : Nat} {L : Lc} {S : List Vl} {M : Mem} {Q : Option Vl → Mem → Prop} {x : Int32} (hn : nl L t = true) (hlt : t < qml m) (len : Nat) (hd : (∃ z : Fin 4, (z : Nat) = t ∧ len = 1 ∧ decode (qbt m) pc = .ok (.istore_n z, 1)) ∨ (len = 2 ∧ decode (qbt m) pc = .ok (.istore t, 2)))
    (h : V X d m (pc + len) (L.set t (some (vI x))) S M Q) : V X d m pc L (vI x :: S) M Q := by
  have ho : okL L → okS (vI x :: S) → okL (L.set t (some (vI x))) ∧ okS S := fun h1 h2 => ⟨okL_set h1 (okS_head h2), okS_tail h2⟩
  rcases hd with ⟨z, hz, rfl, hd⟩ | ⟨rfl, hd⟩
  · exact V.loc List.length_set ho (fun p e s mm args below meth c H locs ls Z hm hL k => lv_istore_n hm.1 hm.2.1 hd hz hL.has hlt rfl (fun ls' h' => k ls' (LV.store hn h'))) h
  · exact V.loc List.length_set ho (fun p e s mm args below meth c H locs ls Z hm hL k => lv_istore hm.1 hm.2.1 hd hL.has hlt rfl (fun ls' h' => k ls' (LV.store hn h'))) h
theorem s_lstore {X : Cx} {d m pc t : Nat} {L : Lc} {S : List Vl} {M : Mem} {Q : Option Vl → Mem → Prop} {x : Int64} (hn : nl L t = true) (hlt : t + 1 < qml m) (len : Nat) (hd : (∃ z : Fin 4, (z : Nat) = t ∧ len = 1 ∧ decode (qbt m) pc = .ok (.lstore_n z, 1)) ∨ (len = 2 ∧ decode (qbt m) pc = .ok (.lstore t, 2)))
    (h : V X d m (pc + len) ((L.set t (some (vJ x))).set (t + 1) none) S M Q) : V X d m pc L (vJ x :: S) M Q := by
  have hln : ((L.set t (some (vJ x))).set (t + 1) none).length = L.length := by rw [List.length_set, List.length_set]
  have ho : okL L → okS (vJ x :: S) → okL ((L.set t (some (vJ x))).set (t + 1) none) ∧ okS S := fun h1 h2 => ⟨okL_setN (okL_set h1 (okS_head h2)), okS_tail h2⟩
  rcases hd with ⟨z, hz, rfl, hd⟩ | ⟨rfl, hd⟩
  · exact V.loc hln ho (fun p e s mm args below meth c H locs ls Z hm hL k => lv_lstore_n hm.1 hm.2.1 hd hz hL.has hlt rfl (fun ls' h' => k ls' (LV.storeL hn h'))) h
  · exact V.loc hln ho (fun p e s mm args below meth c H locs ls Z hm hL k => lv_lstore hm.1 hm.2.1 hd hL.has hlt rfl (fun ls' h' => k ls' (LV.storeL hn h'))) h
theorem s_iinc {X : Cx} {d m pc t : Nat} {L : Lc} {S : List Vl} {M : Mem} {Q : Option Vl → Mem → Prop} {v : Int32} {z : Int} (hv : L.getD t none = some (vI v)) (hn : nl L t = true) (hlt : t < qml m) (hd : decode (qbt m) pc = .ok (.iinc t z, 3))
    (h : V X d m (pc + 3) (L.set t (some (vI (v + Int32.ofInt z)))) S M Q) : V X d m pc L S M Q := by
  have ho : okL L → okS S → okL (L.set t (some (vI (v + Int32.ofInt z)))) ∧ okS S := fun h1 h2 => ⟨okL_set h1 trivial, h2⟩
  refine V.loc List.length_set ho (fun p e s mm args below meth c H locs ls Z hm hL k => ?_) h
  obtain ⟨i, hi⟩ := lvl_at (X := X) hv
  exact lv_iinc hm.1 hm.2.1 hd hL.has hi rfl hlt rfl (fun ls' h' => k ls' (LV.store hn h'))
theorem s_iald {X : Cx} {d m pc c a : Nat} {L : Lc} {S : List Vl} {M : Mem} {Q : Option Vl → Mem → Prop} {i : Int32} (h1 : (qcol c).1 = 1) (hi : inb i (qcol c).2.1) (hd : decode (qbt m) pc = .ok (.iaload, 1)) (h2 : 2 ≤ c)
    (h : V X d m (pc + 1) L (vI (M.1 c a (ix i)) :: S) M Q) : V X d m pc L (vI i :: vR c a :: S) M Q := by
  refine V.step (S' := vI (M.1 c a (ix i)) :: S) (fun _ ho => okS_cons trivial (okS_tail (okS_tail ho))) ?_ h
  intro p e s mm args below meth cc H locs ls Z hm hG hP hS hL hoL hoS k
  obtain ⟨q0, g1, g2⟩ := wl_get (X := X) (M := M) (ok_pair (okS_head (okS_tail hoS)) h2)
  rw [ent1 h1] at g1
  rw [List.map_cons, List.map_cons, tv_pair h2]
  exact va_iald hm.1 hm.2.1 hG.2.1 hP q0 0 g1 rfl hi hd k
theorem s_zald {X : Cx} {d m pc c a : Nat} {L : Lc} {S : List Vl} {M : Mem} {Q : Option Vl → Mem → Prop} {i : Int32} (h1 : (qcol c).1 = 2) (hi : inb i (qcol c).2.1) (hd : decode (qbt m) pc = .ok (.baload, 1)) (h2 : 2 ≤ c)
    (h : V X d m (pc + 1) L (vI (M.1 c a (ix i)) :: S) M Q) : V X d m pc L (vI i :: vR c a :: S) M Q := by
  refine V.step (S' := vI (M.1 c a (ix i)) :: S) (fun _ ho => okS_cons trivial (okS_tail (okS_tail ho))) ?_ h
  intro p e s mm args below meth cc H locs ls Z hm hG hP hS hL hoL hoS k
  obtain ⟨q0, g1, g2⟩ := wl_get (X := X) (M := M) (ok_pair (okS_head (okS_tail hoS)) h2)
  rw [ent2 h1] at g1
  rw [List.map_cons, List.map_cons, tv_pair h2]
  exact va_zald hm.1 hm.2.1 hG.2.1 hP q0 1 g1 rfl hi hd k
theorem s_lald {X : Cx} {d m pc c a : Nat} {L : Lc} {S : List Vl} {M : Mem} {Q : Option Vl → Mem → Prop} {i : Int32} (h1 : (qcol c).1 = 3) (hi : inb i (qcol c).2.1) (hd : decode (qbt m) pc = .ok (.laload, 1)) (h2 : 2 ≤ c)
    (h : V X d m (pc + 1) L (vJ (M.2 c a (ix i)) :: S) M Q) : V X d m pc L (vI i :: vR c a :: S) M Q := by
  refine V.step (S' := vJ (M.2 c a (ix i)) :: S) (fun _ ho => okS_cons trivial (okS_tail (okS_tail ho))) ?_ h
  intro p e s mm args below meth cc H locs ls Z hm hG hP hS hL hoL hoS k
  obtain ⟨q0, g1, g2⟩ := wl_get (X := X) (M := M) (ok_pair (okS_head (okS_tail hoS)) h2)
  rw [ent3 h1] at g1
  rw [List.map_cons, List.map_cons, tv_pair h2]
  exact va_lald hm.1 hm.2.1 hG.2.1 hP q0 2 g1 rfl hi hd k
theorem s_iast {X : Cx} {d m pc c a : Nat} {L : Lc} {S : List Vl} {M : Mem} {Q : Option Vl → Mem → Prop} {i x : Int32} (h1 : (qcol c).1 = 1) (hi : inb i (qcol c).2.1) (hd : decode (qbt m) pc = .ok (.iastore, 1)) (h2 : 2 ≤ c)
    (h : V X d m (pc + 1) L S (st M c a (ix i) x) Q) : V X d m pc L (vI x :: vI i :: vR c a :: S) M Q := by
  refine V.mem (S' := S) (fun ho => okS_tail (okS_tail (okS_tail ho))) ?_ h
  intro p e s mm args below meth cc H locs ls Z hm hG hP hS hL hoS k
  obtain ⟨q0, g1, g2⟩ := wl_get (X := X) (M := M) (ok_pair (okS_head (okS_tail (okS_tail hoS))) h2)
  rw [ent1 h1] at g1
  rw [List.map_cons, List.map_cons, List.map_cons, tv_pair h2]
  refine va_iast hm.1 hm.2.1 hG.2.1 hP (wl_D hG.1) hS q0 0 g1 rfl hi hd (fun H1 locs1 hP1 hD1 hS1 => k H1 locs1 ?_ hS1)
  have e1 : qent X (st M c a (ix i) x) c a = .inl (xc X 0, (qcol c).2.1, .inl (upd (M.1 c a) i.toNatClampNeg x)) := by rw [ent1 h1, st_eq]; rfl
  rw [← e1, wl_st g2] at hP1
  exact hP1
theorem s_zast {X : Cx} {d m pc c a : Nat} {L : Lc} {S : List Vl} {M : Mem} {Q : Option Vl → Mem → Prop} {i x : Int32} (h1 : (qcol c).1 = 2) (hi : inb i (qcol c).2.1) (hx : isB x) (hd : decode (qbt m) pc = .ok (.bastore, 1)) (h2 : 2 ≤ c)
    (h : V X d m (pc + 1) L S (st M c a (ix i) x) Q) : V X d m pc L (vI x :: vI i :: vR c a :: S) M Q := by
  refine V.mem (S' := S) (fun ho => okS_tail (okS_tail (okS_tail ho))) ?_ h
  intro p e s mm args below meth cc H locs ls Z hm hG hP hS hL hoS k
  obtain ⟨q0, g1, g2⟩ := wl_get (X := X) (M := M) (ok_pair (okS_head (okS_tail (okS_tail hoS))) h2)
  rw [ent2 h1] at g1
  rw [List.map_cons, List.map_cons, List.map_cons, tv_pair h2]
  refine va_zast hm.1 hm.2.1 hG.2.1 hP (wl_D hG.1) hS q0 1 g1 rfl hi hd (fun H1 locs1 hP1 hD1 hS1 => k H1 locs1 ?_ hS1)
  have e1 : qent X (st M c a (ix i) x) c a = .inl (xc X 1, (qcol c).2.1, .inl (upd (M.1 c a) i.toNatClampNeg (vp_nar .boolean x))) := by rw [ent2 h1, st_eq, (narB hx).2.2]; rfl
  rw [← e1, wl_st g2] at hP1
  exact hP1
theorem s_last {X : Cx} {d m pc c a : Nat} {L : Lc} {S : List Vl} {M : Mem} {Q : Option Vl → Mem → Prop} {i : Int32} {x : Int64} (h1 : (qcol c).1 = 3) (hi : inb i (qcol c).2.1) (hd : decode (qbt m) pc = .ok (.lastore, 1)) (h2 : 2 ≤ c)
    (h : V X d m (pc + 1) L S (stL M c a (ix i) x) Q) : V X d m pc L (vJ x :: vI i :: vR c a :: S) M Q := by
  refine V.mem (S' := S) (fun ho => okS_tail (okS_tail (okS_tail ho))) ?_ h
  intro p e s mm args below meth cc H locs ls Z hm hG hP hS hL hoS k
  obtain ⟨q0, g1, g2⟩ := wl_get (X := X) (M := M) (ok_pair (okS_head (okS_tail (okS_tail hoS))) h2)
  rw [ent3 h1] at g1
  rw [List.map_cons, List.map_cons, List.map_cons, tv_pair h2]
  refine va_last hm.1 hm.2.1 hG.2.1 hP (wl_D hG.1) hS q0 2 g1 rfl hi hd (fun H1 locs1 hP1 hD1 hS1 => k H1 locs1 ?_ hS1)
  have e1 : qent X (stL M c a (ix i) x) c a = .inl (xc X 2, (qcol c).2.1, .inr (.inl (vp_updL (M.2 c a) i.toNatClampNeg x))) := by rw [ent3 h1, stL_eq]; rfl
  rw [← e1, wl_stL g2] at hP1
  exact hP1
theorem s_aald {X : Cx} {d m pc c a z c' a' : Nat} {fs : List (Nat × Nat × Nat)} {L : Lc} {S : List Vl} {M : Mem} {Q : Option Vl → Mem → Prop} {i : Int32} (h1 : (qcol c).1 = 4) (hi : inb i (qcol c).2.1) (hf : (qcol c).2.2 = (z, c', a') :: fs) (hd : decode (qbt m) pc = .ok (.aaload, 1)) (h2 : 2 ≤ c)
    (h : V X d m (pc + 1) L (vR c' (a' + ix i) :: S) M Q) : V X d m pc L (vI i :: vR c a :: S) M Q := by
  have key : (c, a) ∈ qPAIRS → 2 ≤ c' ∧ (c', a' + ix i) ∈ qPAIRS := by
    intro hp
    have h3 := all_of qREA_ok hp
    simp only [h1] at h3
    have h4 := all_of h3 (List.mem_range.mpr (Nat.not_le.mp fun q => hi (Or.inr q)))
    rw [hf] at h4
    simp only [Bool.and_eq_true, List.contains_iff_mem] at h4
    exact ⟨Nat.le_of_ble_eq_true h4.1, h4.2⟩
  refine V.step (S' := vR c' (a' + ix i) :: S) (fun _ ho => okS_cons (Or.inr (Or.inr (key (ok_pair (okS_head (okS_tail ho)) h2)).2)) (okS_tail (okS_tail ho))) ?_ h
  intro p e s mm args below meth cc H locs ls Z hm hG hP hS hL hoL hoS k
  have hp := ok_pair (okS_head (okS_tail hoS)) h2
  obtain ⟨q0, g1, g2⟩ := wl_get (X := X) (M := M) hp
  rw [ent4 h1] at g1
  rw [List.map_cons, List.map_cons, tv_pair h2]
  rw [List.map_cons, tv_pair (key hp).1] at k
  refine va_aldq hm.1 hm.2.1 hG.2.1 hP q0 3 g1 rfl hi hd ?_
  rw [hf]
  exact k
theorem s_alen {X : Cx} {d m pc c a : Nat} {L : Lc} {S : List Vl} {M : Mem} {Q : Option Vl → Mem → Prop} (h1 : (qcol c).1 = 1) (hd : decode (qbt m) pc = .ok (.arraylength, 1)) (h2 : 2 ≤ c)
    (h : V X d m (pc + 1) L (vI (Int32.ofNat (qcol c).2.1) :: S) M Q) : V X d m pc L (vR c a :: S) M Q := by
  refine V.step (S' := vI (Int32.ofNat (qcol c).2.1) :: S) (fun _ ho => okS_cons trivial (okS_tail ho)) ?_ h
  intro p e s mm args below meth cc H locs ls Z hm hG hP hS hL hoL hoS k
  obtain ⟨q0, g1, g2⟩ := wl_get (X := X) (M := M) (ok_pair (okS_head hoS) h2)
  rw [ent1 h1] at g1
  rw [List.map_cons, tv_pair h2]
  exact va_alen hm.1 hm.2.1 hG.2.1 hP q0 0 g1 rfl rfl hd k
theorem col_ge {c k : Nat} (h : (qcol c).1 = k) (hk : k ≠ 9) : 2 ≤ c := by
  rcases c with _ | _ | c
  · exact absurd (h.symm.trans rfl) hk
  · exact absurd (h.symm.trans rfl) hk
  · omega
theorem s_ret {X : Cx} {d m pc : Nat} {L : Lc} {S : List Vl} {M : Mem} {Q : Option Vl → Mem → Prop} {r : Option Vl} (hq : Q r M)
    (row : ∀ (p : Program) (e : Env) (s : State) (mm : MethodId) (args : Array Value) (below : List Frame) (meth : Method) (c : Code) (H : Heap) (locs : List Loc) (ls : Array Slot), MC m p s mm args meth c → (∀ t : State, t.heap = H → s.WarmedH t.vm → QC X Q args s (.returned (r.map (tv X))) t) → (∀ q ∈ locs, inW X q.base) → W p (xl X) e (rmm d) s mm args below meth c H locs 0 0 (MQ below (QC X Q) args s 0 0 (inW X)) (F0 mm pc ls (S.map (tv X)))) : V X d m pc L S M Q := by
  intro p e s mm args below meth c H locs ls C
  obtain ⟨hm, hG, hP, hS, hL, hl, hoL, hoS⟩ := C
  exact row p e s mm args below meth c H locs ls hm (fun t ht hW => ⟨r, M, rfl, hq, by rw [ht]; exact hP, hS.F ht⟩) hS.2.2
end
section
set_option maxRecDepth 100000 in
theorem primW : lw_tbl[373]? = some (.static Lib.Math.max.name) ∧ lw_tbl[374]? = some (.code Lib.Math.max.name Lib.Math.max.code 2 (some .int)) ∧ lw_tbl[689]? = some (.static Lib.Math.min.name) ∧ lw_tbl[690]? = some (.code Lib.Math.min.name Lib.Math.min.code 2 (some .int)) ∧ lw_tbl[1151]? = some (.static Lib.Math.abs.name) ∧ lw_tbl[1152]? = some (.code Lib.Math.abs.name Lib.Math.abs.code 1 (some .int)) ∧ lw_tbl[682]? = some (.native arraycopyName) ∧ lw_tbl[681]? = some (.static arraycopyName) ∧ lw_tbl[121]? = some (.initialized "java/lang/Math") ∧ lw_tbl[127]? = some (.initialized "java/lang/System") := by decide +kernel
theorem s_cpy {X : Cx} {d m pc j c0 a0 c a : Nat} {L : Lc} {S : List Vl} {M : Mem} {Q : Option Vl → Mem → Prop} {sp dp n : Int32} (hd : decode (qbt m) pc = .ok (.invokestatic j, 3)) (hl : Cond.methodLink (qcn (qow m)) j arraycopyName ∈ qgw) (h0 : (qcol c0).1 = 1) (h1 : (qcol c).1 = 1) (q1 : ¬ sp < 0) (q2 : ¬ dp < 0) (q3 : ¬ n < 0) (q4 : ix sp + ix n ≤ (qcol c0).2.1) (q5 : ix dp + ix n ≤ (qcol c).2.1) (hw : ((vI n :: vI dp :: vR c a :: vI sp :: vR c0 a0 :: S).map qcat).sum ≤ 20)
    (h : V X (d + 1) m (pc + 3) L S (cpy M c0 a0 c a (ix sp) (ix dp) (ix n)) Q) : V X (d + 1) m pc L (vI n :: vI dp :: vR c a :: vI sp :: vR c0 a0 :: S) M Q := by
  have hc0 := col_ge h0 (by decide)
  have hc1 := col_ge h1 (by decide)
  refine V.mem (S' := S) (fun ho => okS_tail (okS_tail (okS_tail (okS_tail (okS_tail ho))))) ?_ h
  intro p e s mm args below meth cc H locs ls Z hm hG hP hS hL hoS k
  obtain ⟨hx, hb, hr, hml, hown, hts, hlk⟩ := hm
  have p1 := ok_pair (okS_head (okS_tail (okS_tail hoS))) hc1
  have p0 := ok_pair (okS_head (okS_tail (okS_tail (okS_tail (okS_tail hoS))))) hc0
  obtain ⟨k0, g1, g2⟩ := wl_get (X := X) (M := M) p0
  obtain ⟨k1, g3, g4⟩ := wl_get (X := X) (M := M) p1
  rw [ent1 h0] at g1
  rw [ent1 h1] at g3
  simp only [List.map_cons]
  rw [tv_pair hc1, tv_pair hc0]
  have hsum : ((S.map (tv X)).map fun v => v.category).sum ≤ 20 := by
    rw [cat_sum]
    simp only [List.map_cons, List.sum_cons] at hw
    omega
  refine va_copyi hx hb (hml.trans hL.1.symm) hown (hts _ hl) (hts _ (qgw_of primW.2.2.2.2.2.2.1 rfl)) (hts _ (qgw_of primW.2.2.2.2.2.2.2.1 rfl)) (hts _ (qgw_of primW.2.2.2.2.2.2.2.2.2 rfl)) hG.2.1 hP (wl_D hG.1) hS k0 k1 0 0 g1 g3 rfl rfl rfl q1 q2 q3 q4 q5 (fun _ _ => rfl) (by show 1 ≤ d + 1; omega) ?_ hd (fun H1 locs1 hP1 hD1 hS1 => k H1 locs1 ?_ hS1)
  · have h9 : nativeFrameWords "java/lang/System" "arraycopy" 5 ≤ 60 := by decide
    show _ + (_ + 11) ≤ 100 * (d + 1) + 100
    omega
  · have e1 : qent X (cpy M c0 a0 c a (ix sp) (ix dp) (ix n)) c a = .inl (xc X 0, (qcol c).2.1, .inl (va_cpy (M.1 c0 a0) (M.1 c a) sp.toNatClampNeg dp.toNatClampNeg n.toNatClampNeg)) := by rw [ent1 h1, cpy_eq]; rfl
    rw [← e1, wl_cpy g4] at hP1
    exact hP1
theorem s_prim {X : Cx} {d m pc : Nat} {L : Lc} {S S' : List Vl} {M : Mem} {Q : Option Vl → Mem → Prop} {v : Int32} (hw : (S'.map qcat).sum ≤ 20) (hS' : okS S → okS S')
    (row : ∀ (p : Program) (e : Env) (s : State) (mm : MethodId) (args : Array Value) (below : List Frame) (meth : Method) (c : Code) (H : Heap) (locs : List Loc) (ls : Array Slot) (Z : State → Prop), MC m p s mm args meth c → c.maxLocals = ls.size → ((S'.map (tv X)).map fun v => v.category).sum + 13 ≤ (rmm (d + 1)).locals → 1 ≤ (rmm (d + 1)).frames →
      W p (xl X) e (rmm (d + 1)) s mm args below meth c H locs 0 0 Z (F0 mm (pc + 3) ls (.int v :: S'.map (tv X))) → W p (xl X) e (rmm (d + 1)) s mm args below meth c H locs 0 0 Z (F0 mm pc ls (S.map (tv X))))
    (h : V X (d + 1) m (pc + 3) L (vI v :: S') M Q) : V X (d + 1) m pc L S M Q := by
  refine V.step (S' := vI v :: S') (fun _ ho => okS_cons trivial (hS' ho)) ?_ h
  intro p e s mm args below meth cc H locs ls Z hm hG hP hS hL hoL hoS k
  refine row p e s mm args below meth cc H locs ls Z hm (hm.2.2.2.1.trans hL.1.symm) ?_ (by show 1 ≤ d + 1; omega) k
  rw [cat_sum]
  show _ + 13 ≤ 100 * (d + 1) + 100
  omega
theorem rem32 (a b : Int32) : a - a / b * b = a % b := by
  apply Int32.toInt_inj.mp
  rw [Int32.toInt_sub, Int32.toInt_mul, Int32.toInt_div, Int32.toInt_mod, Int.sub_bmod_bmod, Int.sub_eq_add_neg]
  have h1 : (a.toInt + -((a.toInt.tdiv b.toInt).bmod (2 ^ 32) * b.toInt)).bmod (2 ^ 32) = (a.toInt - a.toInt.tdiv b.toInt * b.toInt).bmod (2 ^ 32) := by
    rw [← Int.sub_eq_add_neg, ← Int.sub_bmod_bmod, Int.bmod_mul_bmod, Int.sub_bmod_bmod]
  rw [h1]
  have h2 : a.toInt - a.toInt.tdiv b.toInt * b.toInt = a.toInt.tmod b.toInt := by
    have := Int.tdiv_mul_add_tmod a.toInt b.toInt
    omega
  rw [h2, ← Int32.toInt_mod]
  exact Int32.toInt_bmod (a % b)
theorem rem64 (a b : Int64) : a - a / b * b = a % b := by
  apply Int64.toInt_inj.mp
  rw [Int64.toInt_sub, Int64.toInt_mul, Int64.toInt_div, Int64.toInt_mod, Int.sub_bmod_bmod, Int.sub_eq_add_neg]
  have h1 : (a.toInt + -((a.toInt.tdiv b.toInt).bmod (2 ^ 64) * b.toInt)).bmod (2 ^ 64) = (a.toInt - a.toInt.tdiv b.toInt * b.toInt).bmod (2 ^ 64) := by
    rw [← Int.sub_eq_add_neg, ← Int.sub_bmod_bmod, Int.bmod_mul_bmod, Int.sub_bmod_bmod]
  rw [h1]
  have h2 : a.toInt - a.toInt.tdiv b.toInt * b.toInt = a.toInt.tmod b.toInt := by
    have := Int.tdiv_mul_add_tmod a.toInt b.toInt
    omega
  rw [h2, ← Int64.toInt_mod]
  exact Int64.toInt_bmod (a % b)
theorem swt_mono {a : Int32} {k k2 : Nat → Prop} {t : Nat} (h : ∀ g, k g → k2 g) : ∀ (tb : List (Int32 × Nat)), swt a k t tb → swt a k2 t tb
  | [], hs => h _ hs
  | (v, g) :: r, hs => ⟨fun z => h _ (hs.1 z), fun z => swt_mono h r (hs.2 z)⟩
theorem cnd_mono {u : Nat} {a b : Int32} {A B A2 B2 : Prop} (h1 : A → A2) (h2 : B → B2) (h : cnd u a b A B) : cnd u a b A2 B2 := by
  rcases u with _ | _ | _ | _ | _ | u <;> (obtain ⟨x, y⟩ := h; exact ⟨fun z => h1 (x z), fun z => h2 (y z)⟩)
set_option maxHeartbeats 4000000 in
theorem wp1_sound {X : Cx} {d m pc npc op t u : Nat} {x : Int32} {tb : List (Int32 × Nat)} {L : Lc} {S : List Vl} {M : Mem} {Q : Option Vl → Mem → Prop} {k : Nat → Lc → List Vl → Mem → Prop} (hc : chk m (qbt m) (qow m) (pc, npc, op, x, t, u, tb) = true)
    (hk : ∀ pc' L' S' M', k pc' L' S' M' → V X (d + 1) m pc' L' S' M' Q) (h : wp1 X d op x t u tb npc L S M Q k) : V X (d + 1) m pc L S M Q := by
  unfold chk at hc
  split at hc
  case h_2 => cases hc
  rename_i i len hd
  simp only [Bool.and_eq_true, decide_eq_true_eq] at hc
  obtain ⟨hnp, hc⟩ := hc
  simp only at hnp hc hd
  subst hnp
  cases i with
  | iconst z =>
    simp only [ck1, Bool.and_eq_true, decide_eq_true_eq] at hc
    obtain ⟨⟨rfl, rfl⟩, rfl⟩ := hc
    exact V.step (S' := vI _ :: S) (fun _ ho => okS_cons trivial ho) (fun p e s mm args below meth c H locs ls Z hm hG hP hS hL hoL hoS k => lv_iconst hm.1 hm.2.1 hd rfl k) (hk _ _ _ _ h)
  | bipush z =>
    simp only [ck1, Bool.and_eq_true, decide_eq_true_eq] at hc
    obtain ⟨⟨rfl, rfl⟩, rfl⟩ := hc
    exact V.step (S' := vI _ :: S) (fun _ ho => okS_cons trivial ho) (fun p e s mm args below meth c H locs ls Z hm hG hP hS hL hoL hoS k => lv_bipush hm.1 hm.2.1 hd rfl k) (hk _ _ _ _ h)
  | sipush z =>
    simp only [ck1, Bool.and_eq_true, decide_eq_true_eq] at hc
    obtain ⟨⟨rfl, rfl⟩, rfl⟩ := hc
    exact V.step (S' := vI _ :: S) (fun _ ho => okS_cons trivial ho) (fun p e s mm args below meth c H locs ls Z hm hG hP hS hL hoL hoS k => lv_sipush hm.1 hm.2.1 hd rfl k) (hk _ _ _ _ h)
  | ldc j =>
    simp only [ck1, Bool.and_eq_true, Bool.or_eq_true, decide_eq_true_eq] at hc
    obtain ⟨rfl, ⟨rfl, hj⟩ | ⟨⟨rfl, hj⟩, h24⟩⟩ := hc
    · exact V.step (S' := vI _ :: S) (fun _ ho => okS_cons trivial ho) (fun p e s mm args below meth c H locs ls Z hm hG hP hS hL hoL hoS k => lv_ldc hm.1 hm.2.1 hm.2.2.2.2.1 (hm.2.2.2.2.2.1 _ (hasC_ok hj)) hd k) (hk _ _ _ _ h)
    · obtain ⟨z, z1, z2, z3⟩ := hasS_ok hj
      refine V.step (S' := vR 1 t :: S) (fun _ ho => okS_cons (Or.inr (Or.inl ⟨rfl, h24⟩)) ho) (fun p e s mm args below meth c H locs ls Z hm hG hP hS hL hoL hoS k => ?_) (hk _ _ _ _ h)
      have hR := hG.2.2.2.1 t z z1
      rw [z2, z3] at hR
      exact va_ldcS hm.1 hm.2.1 hm.2.2.2.2.1 hR hd k
  | ldc_w j =>
    simp only [ck1, Bool.and_eq_true, decide_eq_true_eq] at hc
    obtain ⟨⟨rfl, rfl⟩, hj⟩ := hc
    exact V.step (S' := vI _ :: S) (fun _ ho => okS_cons trivial ho) (fun p e s mm args below meth c H locs ls Z hm hG hP hS hL hoL hoS k => lv_ldcw hm.1 hm.2.1 hm.2.2.2.2.1 (hm.2.2.2.2.2.1 _ (hasC_ok hj)) hd k) (hk _ _ _ _ h)
  | ldc2_w j =>
    simp only [ck1, Bool.and_eq_true, decide_eq_true_eq] at hc
    obtain ⟨⟨rfl, rfl⟩, hj⟩ := hc
    exact V.step (S' := vJ _ :: S) (fun _ ho => okS_cons trivial ho) (fun p e s mm args below meth c H locs ls Z hm hG hP hS hL hoL hoS k => lv_ldc2 hm.1 hm.2.1 hm.2.2.2.2.1 (hm.2.2.2.2.2.1 _ (hasL_ok hj)) hd k) (hk _ _ _ _ h)
  | lconst z =>
    simp only [ck1, Bool.and_eq_true, decide_eq_true_eq] at hc
    obtain ⟨⟨rfl, rfl⟩, rfl⟩ := hc
    exact V.step (S' := vJ _ :: S) (fun _ ho => okS_cons trivial ho) (fun p e s mm args below meth c H locs ls Z hm hG hP hS hL hoL hoS k => lv_lconst hm.1 hm.2.1 hd rfl k) (hk _ _ _ _ h)
  | aconst_null =>
    simp only [ck1, Bool.and_eq_true, decide_eq_true_eq] at hc
    obtain ⟨rfl, rfl⟩ := hc
    exact V.step (S' := vR 0 0 :: S) (fun _ ho => okS_cons (Or.inl rfl) ho) (fun p e s mm args below meth c H locs ls Z hm hG hP hS hL hoL hoS k => lv_null hm.1 hm.2.1 hd k) (hk _ _ _ _ h)
  | iload_n z =>
    simp only [ck1, Bool.and_eq_true, decide_eq_true_eq] at hc
    obtain ⟨⟨rfl, rfl⟩, hz⟩ := hc
    obtain ⟨v, hv, h⟩ := gI_of h
    exact s_load hv (fun p e s mm args below meth c H locs ls Z hm hl k => lv_iload_n hm.1 hm.2.1 hd hz hl k) (hk _ _ _ _ h)
  | iload z =>
    simp only [ck1, Bool.and_eq_true, decide_eq_true_eq] at hc
    obtain ⟨⟨rfl, rfl⟩, rfl⟩ := hc
    obtain ⟨v, hv, h⟩ := gI_of h
    exact s_load hv (fun p e s mm args below meth c H locs ls Z hm hl k => lv_iload hm.1 hm.2.1 hd hl k) (hk _ _ _ _ h)
  | lload_n z =>
    simp only [ck1, Bool.and_eq_true, decide_eq_true_eq] at hc
    obtain ⟨⟨rfl, rfl⟩, hz⟩ := hc
    obtain ⟨v, hv, h⟩ := gJ_of h
    exact s_load hv (fun p e s mm args below meth c H locs ls Z hm hl k => lv_lload_n hm.1 hm.2.1 hd hz hl k) (hk _ _ _ _ h)
  | lload z =>
    simp only [ck1, Bool.and_eq_true, decide_eq_true_eq] at hc
    obtain ⟨⟨rfl, rfl⟩, rfl⟩ := hc
    obtain ⟨v, hv, h⟩ := gJ_of h
    exact s_load hv (fun p e s mm args below meth c H locs ls Z hm hl k => lv_lload hm.1 hm.2.1 hd hl k) (hk _ _ _ _ h)
  | aload_n z =>
    simp only [ck1, Bool.and_eq_true, decide_eq_true_eq] at hc
    obtain ⟨⟨rfl, rfl⟩, hz⟩ := hc
    obtain ⟨c, a, hv, h⟩ := gR_of h
    exact s_aload hv 1 (Or.inl ⟨z, hz, rfl, hd⟩) (hk _ _ _ _ h)
  | aload z =>
    simp only [ck1, Bool.and_eq_true, decide_eq_true_eq] at hc
    obtain ⟨⟨rfl, rfl⟩, rfl⟩ := hc
    obtain ⟨c, a, hv, h⟩ := gR_of h
    exact s_aload hv 2 (Or.inr ⟨rfl, hd⟩) (hk _ _ _ _ h)
  | istore_n z =>
    simp only [ck1, Bool.and_eq_true, decide_eq_true_eq] at hc
    obtain ⟨⟨⟨rfl, rfl⟩, hz⟩, hlt⟩ := hc
    obtain ⟨hn, h⟩ := bB_of h
    obtain ⟨v, S', rfl, h⟩ := tI_of h
    exact s_istore hn hlt 1 (Or.inl ⟨z, hz, rfl, hd⟩) (hk _ _ _ _ h)
  | istore z =>
    simp only [ck1, Bool.and_eq_true, decide_eq_true_eq] at hc
    obtain ⟨⟨⟨rfl, rfl⟩, rfl⟩, hlt⟩ := hc
    obtain ⟨hn, h⟩ := bB_of h
    obtain ⟨v, S', rfl, h⟩ := tI_of h
    exact s_istore hn hlt 2 (Or.inr ⟨rfl, hd⟩) (hk _ _ _ _ h)
  | astore_n z =>
    simp only [ck1, Bool.and_eq_true, decide_eq_true_eq] at hc
    obtain ⟨⟨⟨rfl, rfl⟩, hz⟩, hlt⟩ := hc
    obtain ⟨hn, h⟩ := bB_of h
    obtain ⟨c, a, S', rfl, h⟩ := tR_of h
    exact s_astore hn hlt 1 (Or.inl ⟨z, hz, rfl, hd⟩) (hk _ _ _ _ h)
  | astore z =>
    simp only [ck1, Bool.and_eq_true, decide_eq_true_eq] at hc
    obtain ⟨⟨⟨rfl, rfl⟩, rfl⟩, hlt⟩ := hc
    obtain ⟨hn, h⟩ := bB_of h
    obtain ⟨c, a, S', rfl, h⟩ := tR_of h
    exact s_astore hn hlt 2 (Or.inr ⟨rfl, hd⟩) (hk _ _ _ _ h)
  | lstore_n z =>
    simp only [ck1, Bool.and_eq_true, decide_eq_true_eq] at hc
    obtain ⟨⟨⟨rfl, rfl⟩, hz⟩, hlt⟩ := hc
    obtain ⟨hn, h⟩ := bB_of h
    obtain ⟨v, S', rfl, h⟩ := tJ_of h
    exact s_lstore hn hlt 1 (Or.inl ⟨z, hz, rfl, hd⟩) (hk _ _ _ _ h)
  | lstore z =>
    simp only [ck1, Bool.and_eq_true, decide_eq_true_eq] at hc
    obtain ⟨⟨⟨rfl, rfl⟩, rfl⟩, hlt⟩ := hc
    obtain ⟨hn, h⟩ := bB_of h
    obtain ⟨v, S', rfl, h⟩ := tJ_of h
    exact s_lstore hn hlt 2 (Or.inr ⟨rfl, hd⟩) (hk _ _ _ _ h)
  | iinc z q =>
    simp only [ck1, Bool.and_eq_true, decide_eq_true_eq] at hc
    obtain ⟨⟨⟨⟨rfl, rfl⟩, rfl⟩, rfl⟩, hlt⟩ := hc
    obtain ⟨hn, h⟩ := bB_of h
    obtain ⟨v, hv, h⟩ := gI_of h
    exact s_iinc hv hn hlt hd (hk _ _ _ _ h)
  | goto f =>
    simp only [ck1, Bool.and_eq_true, decide_eq_true_eq] at hc
    obtain ⟨⟨rfl, rfl⟩, ht⟩ := hc
    exact V.step (S' := S) (fun _ ho => ho) (fun p e s mm args below meth c H locs ls Z hm hG hP hS hL hoL hoS k => lv_goto hm.1 hm.2.1 hd ht k) (hk _ _ _ _ h)
  | ifCond cd f =>
    simp only [ck1, Bool.and_eq_true, decide_eq_true_eq] at hc
    obtain ⟨⟨⟨rfl, rfl⟩, rfl⟩, ht⟩ := hc
    obtain ⟨a, S', rfl, h⟩ := tI_of h
    exact s_if hd ht (cnd_mono (hk _ _ _ _) (hk _ _ _ _) h)
  | if_icmp cd f =>
    simp only [ck1, Bool.and_eq_true, decide_eq_true_eq] at hc
    obtain ⟨⟨⟨rfl, rfl⟩, rfl⟩, ht⟩ := hc
    obtain ⟨a, b, S', rfl, h⟩ := tII_of h
    exact s_cnd hd ht (cnd_mono (hk _ _ _ _) (hk _ _ _ _) h)
  | ifnull f =>
    simp only [ck1, Bool.and_eq_true, decide_eq_true_eq] at hc
    obtain ⟨⟨rfl, rfl⟩, ht⟩ := hc
    obtain ⟨c, a, S', rfl, h⟩ := tR_of h
    rcases c with _ | _ | c
    · exact V.step (S' := S') (fun _ ho => okS_tail ho) (fun p e s mm args below meth c H locs ls Z hm hG hP hS hL hoL hoS k => lv_ifnullN hm.1 hm.2.1 hd ht k) (hk _ _ _ _ h)
    · exact V.step (S' := S') (fun _ ho => okS_tail ho) (fun p e s mm args below meth c H locs ls Z hm hG hP hS hL hoL hoS k => lv_ifnull hm.1 hm.2.1 hd k) (hk _ _ _ _ h)
    · exact V.step (S' := S') (fun _ ho => okS_tail ho) (fun p e s mm args below meth c H locs ls Z hm hG hP hS hL hoL hoS k => lv_ifnull hm.1 hm.2.1 hd k) (hk _ _ _ _ h)
  | ifnonnull f =>
    simp only [ck1, Bool.and_eq_true, decide_eq_true_eq] at hc
    obtain ⟨⟨rfl, rfl⟩, ht⟩ := hc
    obtain ⟨c, a, S', rfl, h⟩ := tR_of h
    rcases c with _ | _ | c
    · exact V.step (S' := S') (fun _ ho => okS_tail ho) (fun p e s mm args below meth c H locs ls Z hm hG hP hS hL hoL hoS k => lv_ifnonnullN hm.1 hm.2.1 hd k) (hk _ _ _ _ h)
    · exact V.step (S' := S') (fun _ ho => okS_tail ho) (fun p e s mm args below meth c H locs ls Z hm hG hP hS hL hoL hoS k => lv_ifnonnull hm.1 hm.2.1 hd ht k) (hk _ _ _ _ h)
    · exact V.step (S' := S') (fun _ ho => okS_tail ho) (fun p e s mm args below meth c H locs ls Z hm hG hP hS hL hoL hoS k => lv_ifnonnull hm.1 hm.2.1 hd ht k) (hk _ _ _ _ h)
  | tableswitch df lo hi offs =>
    simp only [ck1, Bool.and_eq_true, decide_eq_true_eq] at hc
    obtain ⟨⟨⟨rfl, ht⟩, hhi⟩, hsw⟩ := hc
    obtain ⟨a, S', rfl, h⟩ := tI_of h
    rcases swt_tab (X := X) tb lo offs.toList hsw h with ⟨i, g, f, q1, q2, q3, q4⟩ | ⟨q1, q2⟩
    · have hi2 : i < offs.toList.length := (List.getElem?_eq_some_iff.mp q2).1
      refine V.step (S' := S') (fun _ ho => okS_tail ho) (fun p e s mm args below meth c H locs ls Z hm hG hP hS hL hoL hoS k => lv_tableIn hm.1 hm.2.1 hd (by omega) (by omega) (off := f) ?_ q3 k) (hk _ _ _ _ q4)
      rw [show (a.toInt - lo).toNat = i by omega, ← Array.getElem?_toList]
      exact q2
    · exact V.step (S' := S') (fun _ ho => okS_tail ho) (fun p e s mm args below meth c H locs ls Z hm hG hP hS hL hoL hoS k => lv_tableOut hm.1 hm.2.1 hd (by omega) ht k) (hk _ _ _ _ q2)
  | lookupswitch df ps =>
    simp only [ck1, Bool.and_eq_true, decide_eq_true_eq] at hc
    obtain ⟨⟨⟨rfl, ht⟩, hps⟩, hsw⟩ := hc
    obtain ⟨a, S', rfl, h⟩ := tI_of h
    obtain ⟨g, f, q1, q2, q3⟩ := swt_look ht ps.toList tb hsw h
    exact V.step (S' := S') (fun _ ho => okS_tail ho) (fun p e s mm args below meth c H locs ls Z hm hG hP hS hL hoL hoS k => lv_lookup hm.1 hm.2.1 hd hps q1 q2 k) (hk _ _ _ _ q3)
  | iadd =>
    simp only [ck1, Bool.and_eq_true, decide_eq_true_eq] at hc
    obtain ⟨⟨rfl, rfl⟩, rfl⟩ := hc
    obtain ⟨a, b, S', rfl, h⟩ := tII_of h
    exact V.step (S' := vI _ :: S') (fun _ ho => okS_cons trivial (okS_tail (okS_tail ho))) (fun p e s mm args below meth c H locs ls Z hm hG hP hS hL hoL hoS k => lv_iadd hm.1 hm.2.1 hd k) (hk _ _ _ _ h)
  | isub =>
    simp only [ck1, Bool.and_eq_true, decide_eq_true_eq] at hc
    obtain ⟨⟨rfl, rfl⟩, rfl⟩ := hc
    obtain ⟨a, b, S', rfl, h⟩ := tII_of h
    exact V.step (S' := vI _ :: S') (fun _ ho => okS_cons trivial (okS_tail (okS_tail ho))) (fun p e s mm args below meth c H locs ls Z hm hG hP hS hL hoL hoS k => lv_isub hm.1 hm.2.1 hd k) (hk _ _ _ _ h)
  | imul =>
    simp only [ck1, Bool.and_eq_true, decide_eq_true_eq] at hc
    obtain ⟨⟨rfl, rfl⟩, rfl⟩ := hc
    obtain ⟨a, b, S', rfl, h⟩ := tII_of h
    exact V.step (S' := vI _ :: S') (fun _ ho => okS_cons trivial (okS_tail (okS_tail ho))) (fun p e s mm args below meth c H locs ls Z hm hG hP hS hL hoL hoS k => lv_imul hm.1 hm.2.1 hd k) (hk _ _ _ _ h)
  | iand =>
    simp only [ck1, Bool.and_eq_true, decide_eq_true_eq] at hc
    obtain ⟨⟨rfl, rfl⟩, rfl⟩ := hc
    obtain ⟨a, b, S', rfl, h⟩ := tII_of h
    exact V.step (S' := vI _ :: S') (fun _ ho => okS_cons trivial (okS_tail (okS_tail ho))) (fun p e s mm args below meth c H locs ls Z hm hG hP hS hL hoL hoS k => lv_iand hm.1 hm.2.1 hd k) (hk _ _ _ _ h)
  | ior =>
    simp only [ck1, Bool.and_eq_true, decide_eq_true_eq] at hc
    obtain ⟨⟨rfl, rfl⟩, rfl⟩ := hc
    obtain ⟨a, b, S', rfl, h⟩ := tII_of h
    exact V.step (S' := vI _ :: S') (fun _ ho => okS_cons trivial (okS_tail (okS_tail ho))) (fun p e s mm args below meth c H locs ls Z hm hG hP hS hL hoL hoS k => lv_ior hm.1 hm.2.1 hd k) (hk _ _ _ _ h)
  | ixor =>
    simp only [ck1, Bool.and_eq_true, decide_eq_true_eq] at hc
    obtain ⟨⟨rfl, rfl⟩, rfl⟩ := hc
    obtain ⟨a, b, S', rfl, h⟩ := tII_of h
    exact V.step (S' := vI _ :: S') (fun _ ho => okS_cons trivial (okS_tail (okS_tail ho))) (fun p e s mm args below meth c H locs ls Z hm hG hP hS hL hoL hoS k => lv_ixor hm.1 hm.2.1 hd k) (hk _ _ _ _ h)
  | ishl =>
    simp only [ck1, Bool.and_eq_true, decide_eq_true_eq] at hc
    obtain ⟨⟨rfl, rfl⟩, rfl⟩ := hc
    obtain ⟨a, b, S', rfl, h⟩ := tII_of h
    exact V.step (S' := vI _ :: S') (fun _ ho => okS_cons trivial (okS_tail (okS_tail ho))) (fun p e s mm args below meth c H locs ls Z hm hG hP hS hL hoL hoS k => lv_ishl hm.1 hm.2.1 hd k) (hk _ _ _ _ h)
  | ishr =>
    simp only [ck1, Bool.and_eq_true, decide_eq_true_eq] at hc
    obtain ⟨⟨rfl, rfl⟩, rfl⟩ := hc
    obtain ⟨a, b, S', rfl, h⟩ := tII_of h
    exact V.step (S' := vI _ :: S') (fun _ ho => okS_cons trivial (okS_tail (okS_tail ho))) (fun p e s mm args below meth c H locs ls Z hm hG hP hS hL hoL hoS k => lv_ishr hm.1 hm.2.1 hd k) (hk _ _ _ _ h)
  | iushr =>
    simp only [ck1, Bool.and_eq_true, decide_eq_true_eq] at hc
    obtain ⟨⟨rfl, rfl⟩, rfl⟩ := hc
    obtain ⟨a, b, S', rfl, h⟩ := tII_of h
    exact V.step (S' := vI _ :: S') (fun _ ho => okS_cons trivial (okS_tail (okS_tail ho))) (fun p e s mm args below meth c H locs ls Z hm hG hP hS hL hoL hoS k => lv_iushr hm.1 hm.2.1 hd rfl k) (hk _ _ _ _ h)
  | idiv =>
    simp only [ck1, Bool.and_eq_true, decide_eq_true_eq] at hc
    obtain ⟨rfl, rfl⟩ := hc
    obtain ⟨a, b, S', rfl, hb, h⟩ := tII_of h
    exact V.step (S' := vI _ :: S') (fun _ ho => okS_cons trivial (okS_tail (okS_tail ho))) (fun p e s mm args below meth c H locs ls Z hm hG hP hS hL hoL hoS k => lv_idiv hm.1 hm.2.1 hd hb k) (hk _ _ _ _ h)
  | irem =>
    simp only [ck1, Bool.and_eq_true, decide_eq_true_eq] at hc
    obtain ⟨rfl, rfl⟩ := hc
    obtain ⟨a, b, S', rfl, hb, h⟩ := tII_of h
    exact V.step (S' := vI _ :: S') (fun _ ho => okS_cons trivial (okS_tail (okS_tail ho))) (fun p e s mm args below meth c H locs ls Z hm hG hP hS hL hoL hoS k => lv_irem hm.1 hm.2.1 hd hb (by rw [rem32]; exact k)) (hk _ _ _ _ h)
  | ladd =>
    simp only [ck1, Bool.and_eq_true, decide_eq_true_eq] at hc
    obtain ⟨⟨rfl, rfl⟩, rfl⟩ := hc
    obtain ⟨a, b, S', rfl, h⟩ := tJJ_of h
    exact V.step (S' := vJ _ :: S') (fun _ ho => okS_cons trivial (okS_tail (okS_tail ho))) (fun p e s mm args below meth c H locs ls Z hm hG hP hS hL hoL hoS k => lv_ladd hm.1 hm.2.1 hd k) (hk _ _ _ _ h)
  | lmul =>
    simp only [ck1, Bool.and_eq_true, decide_eq_true_eq] at hc
    obtain ⟨⟨rfl, rfl⟩, rfl⟩ := hc
    obtain ⟨a, b, S', rfl, h⟩ := tJJ_of h
    exact V.step (S' := vJ _ :: S') (fun _ ho => okS_cons trivial (okS_tail (okS_tail ho))) (fun p e s mm args below meth c H locs ls Z hm hG hP hS hL hoL hoS k => lv_lmul hm.1 hm.2.1 hd k) (hk _ _ _ _ h)
  | lrem =>
    simp only [ck1, Bool.and_eq_true, decide_eq_true_eq] at hc
    obtain ⟨rfl, rfl⟩ := hc
    obtain ⟨a, b, S', rfl, hb, h⟩ := tJJ_of h
    exact V.step (S' := vJ _ :: S') (fun _ ho => okS_cons trivial (okS_tail (okS_tail ho))) (fun p e s mm args below meth c H locs ls Z hm hG hP hS hL hoL hoS k => lv_lrem hm.1 hm.2.1 hd hb (by rw [rem64]; exact k)) (hk _ _ _ _ h)
  | i2l =>
    simp only [ck1, Bool.and_eq_true, decide_eq_true_eq] at hc
    obtain ⟨rfl, rfl⟩ := hc
    obtain ⟨a, S', rfl, h⟩ := tI_of h
    exact V.step (S' := vJ _ :: S') (fun _ ho => okS_cons trivial (okS_tail ho)) (fun p e s mm args below meth c H locs ls Z hm hG hP hS hL hoL hoS k => lv_i2l hm.1 hm.2.1 hd rfl k) (hk _ _ _ _ h)
  | l2i =>
    simp only [ck1, Bool.and_eq_true, decide_eq_true_eq] at hc
    obtain ⟨rfl, rfl⟩ := hc
    obtain ⟨a, S', rfl, h⟩ := tJ_of h
    exact V.step (S' := vI _ :: S') (fun _ ho => okS_cons trivial (okS_tail ho)) (fun p e s mm args below meth c H locs ls Z hm hG hP hS hL hoL hoS k => lv_l2i hm.1 hm.2.1 hd rfl k) (hk _ _ _ _ h)
  | dup =>
    simp only [ck1, Bool.and_eq_true, decide_eq_true_eq] at hc
    obtain ⟨rfl, rfl⟩ := hc
    rcases S with _ | ⟨v, S'⟩
    · exact h.elim
    · obtain ⟨h1, h⟩ := bB_of h
      exact V.step (S' := v :: v :: S') (fun _ ho => okS_cons (okS_head ho) ho) (fun p e s mm args below meth c H locs ls Z hm hG hP hS hL hoL hoS k => lv_dup hm.1 hm.2.1 hd (cat_tv v h1) k) (hk _ _ _ _ h)
  | dup2 =>
    simp only [ck1, Bool.and_eq_true, decide_eq_true_eq] at hc
    obtain ⟨rfl, rfl⟩ := hc
    rcases S with _ | ⟨v, _ | ⟨w, S'⟩⟩
    · exact h.elim
    · exact h.elim
    · obtain ⟨h1, h⟩ := bB_of h
      simp only [Bool.and_eq_true] at h1
      exact V.step (S' := v :: w :: v :: w :: S') (fun _ ho => okS_cons (okS_head ho) (okS_cons (okS_head (okS_tail ho)) ho)) (fun p e s mm args below meth c H locs ls Z hm hG hP hS hL hoL hoS k => lv_dup2_11 hm.1 hm.2.1 hd (cat_tv v h1.1) (cat_tv w h1.2) k) (hk _ _ _ _ h)
  | pop =>
    simp only [ck1, Bool.and_eq_true, decide_eq_true_eq] at hc
    obtain ⟨rfl, rfl⟩ := hc
    rcases S with _ | ⟨v, S'⟩
    · exact h.elim
    · obtain ⟨h1, h⟩ := bB_of h
      exact V.step (S' := S') (fun _ ho => okS_tail ho) (fun p e s mm args below meth c H locs ls Z hm hG hP hS hL hoL hoS k => lv_pop hm.1 hm.2.1 hd (cat_tv v h1) k) (hk _ _ _ _ h)
  | getfield j =>
    simp only [ck1, Bool.and_eq_true, decide_eq_true_eq] at hc
    obtain ⟨⟨rfl, rfl⟩, hF⟩ := hc
    obtain ⟨c, a, S', rfl, h⟩ := tR_of h
    obtain ⟨hb, h⟩ := bB_of h
    simp only [Bool.and_eq_true, Nat.beq_eq] at hb
    obtain ⟨⟨h2, h0⟩, hu⟩ := hb
    have h2 := Nat.le_of_ble_eq_true h2
    split at h
    · rename_i f1 f2 hf
      exact s_get hd hF h2 h0 hu hf (v := vI (M.1 c a t)) rfl (fun _ => trivial) (hk _ _ _ _ h)
    · rename_i f1 f2 hf
      exact s_get hd hF h2 h0 hu hf (v := vI (M.1 c a t)) rfl (fun _ => trivial) (hk _ _ _ _ h)
    · rename_i c' f2 hf
      refine V.okp (fun ho => ?_)
      have hr := (ok_ref (X := X) (ok_pair (okS_head ho) h2) (List.mem_of_getElem? hf)).1 rfl
      exact s_get hd hF h2 h0 hu hf (v := vR c' a) (tv_pair hr.1).symm (fun _ => Or.inr (Or.inr hr.2)) (hk _ _ _ _ h)
    · rename_i c' a' hf
      refine V.okp (fun ho => ?_)
      have hr := (ok_ref (X := X) (ok_pair (okS_head ho) h2) (List.mem_of_getElem? hf)).2 rfl
      exact s_get hd hF h2 h0 hu hf (v := vR c' a') (tv_pair hr.1).symm (fun _ => Or.inr (Or.inr hr.2)) (hk _ _ _ _ h)
    · exact h.elim
  | putfield j =>
    simp only [ck1, Bool.and_eq_true, decide_eq_true_eq, Bool.not_eq_true'] at hc
    obtain ⟨⟨⟨rfl, rfl⟩, hF⟩, hfin⟩ := hc
    obtain ⟨c, a, x, S', rfl, h⟩ := tXR_of h
    obtain ⟨hb, h⟩ := bB_of h
    simp only [Bool.and_eq_true, Nat.beq_eq] at hb
    obtain ⟨⟨h2, h0⟩, hu⟩ := hb
    have h2 := Nat.le_of_ble_eq_true h2
    refine V.okp (fun ho => ?_)
    have hp := ok_pair (okS_head (okS_tail ho)) h2
    split at h
    · rename_i f1 f2 hf
      have ty := (typ_at hp h0 hf).1 rfl
      rw [hu] at ty
      exact s_put hd hF hfin h2 h0 hu hf (Or.inl rfl) ⟨_, ty, rfl, rfl⟩ (hk _ _ _ _ (h _ rfl))
    · rename_i f1 f2 hf
      have ty := (typ_at hp h0 hf).2 rfl
      rw [hu] at ty
      exact s_put hd hF hfin h2 h0 hu hf (Or.inr rfl) ⟨_, ty, (narB h.1).1, (narB h.1).2.1⟩ (hk _ _ _ _ (h.2 _ rfl))
    · exact h.elim
  | iaload =>
    simp only [ck1, Bool.and_eq_true, decide_eq_true_eq] at hc
    obtain ⟨rfl, rfl⟩ := hc
    obtain ⟨c, a, i, S', rfl, h⟩ := tIR_of h
    obtain ⟨hb, hi, h⟩ := bB_of h
    rw [Nat.beq_eq] at hb
    exact s_iald hb hi hd (col_ge hb (by decide)) (hk _ _ _ _ h)
  | baload =>
    simp only [ck1, Bool.and_eq_true, decide_eq_true_eq] at hc
    obtain ⟨rfl, rfl⟩ := hc
    obtain ⟨c, a, i, S', rfl, h⟩ := tIR_of h
    obtain ⟨hb, hi, h⟩ := bB_of h
    rw [Nat.beq_eq] at hb
    exact s_zald hb hi hd (col_ge hb (by decide)) (hk _ _ _ _ h)
  | laload =>
    simp only [ck1, Bool.and_eq_true, decide_eq_true_eq] at hc
    obtain ⟨rfl, rfl⟩ := hc
    obtain ⟨c, a, i, S', rfl, h⟩ := tIR_of h
    obtain ⟨hb, hi, h⟩ := bB_of h
    rw [Nat.beq_eq] at hb
    exact s_lald hb hi hd (col_ge hb (by decide)) (hk _ _ _ _ h)
  | iastore =>
    simp only [ck1, Bool.and_eq_true, decide_eq_true_eq] at hc
    obtain ⟨rfl, rfl⟩ := hc
    obtain ⟨c, a, i, x, S', rfl, h⟩ := tIIR_of h
    obtain ⟨hb, hi, h⟩ := bB_of h
    rw [Nat.beq_eq] at hb
    exact s_iast hb hi hd (col_ge hb (by decide)) (hk _ _ _ _ (h _ rfl))
  | bastore =>
    simp only [ck1, Bool.and_eq_true, decide_eq_true_eq] at hc
    obtain ⟨rfl, rfl⟩ := hc
    obtain ⟨c, a, i, x, S', rfl, h⟩ := tIIR_of h
    obtain ⟨hb, hi, hx, h⟩ := bB_of h
    rw [Nat.beq_eq] at hb
    exact s_zast hb hi hx hd (col_ge hb (by decide)) (hk _ _ _ _ (h _ rfl))
  | lastore =>
    simp only [ck1, Bool.and_eq_true, decide_eq_true_eq] at hc
    obtain ⟨rfl, rfl⟩ := hc
    obtain ⟨c, a, i, x, S', rfl, h⟩ := tJIR_of h
    obtain ⟨hb, hi, h⟩ := bB_of h
    rw [Nat.beq_eq] at hb
    exact s_last hb hi hd (col_ge hb (by decide)) (hk _ _ _ _ (h _ rfl))
  | aaload =>
    simp only [ck1, Bool.and_eq_true, decide_eq_true_eq] at hc
    obtain ⟨rfl, rfl⟩ := hc
    obtain ⟨c, a, i, S', rfl, h⟩ := tIR_of h
    obtain ⟨hb, hi, h⟩ := bB_of h
    rw [Nat.beq_eq] at hb
    split at h
    · rename_i z c' a' fs hf
      exact s_aald hb hi hf hd (col_ge hb (by decide)) (hk _ _ _ _ h)
    · exact h.elim
  | arraylength =>
    simp only [ck1, Bool.and_eq_true, decide_eq_true_eq] at hc
    obtain ⟨rfl, rfl⟩ := hc
    obtain ⟨c, a, S', rfl, h⟩ := tR_of h
    obtain ⟨hb, h⟩ := bB_of h
    rw [Nat.beq_eq] at hb
    exact s_alen hb hd (col_ge hb (by decide)) (hk _ _ _ _ h)
  | ireturn =>
    simp only [ck1, Bool.and_eq_true, Bool.or_eq_true, decide_eq_true_eq] at hc
    obtain ⟨rfl, ⟨rfl, hr⟩ | ⟨rfl, hr⟩⟩ := hc
    · simp only [wp1] at h
      split at h
      · exact s_ret (r := some (vI _)) h (fun p e s mm args below meth c H locs ls hm hq hf => W.iret hm.1 hm.2.1 (hm.2.2.1.trans hr) hq hf hd hm.2.2.2.2.2.2)
      · exact h.elim
    · simp only [wp1] at h
      split at h
      · exact s_ret (r := some (vI _)) h.2 (fun p e s mm args below meth c H locs ls hm hq hf => W.zret hm.1 hm.2.1 (hm.2.2.1.trans hr) (narB h.1).1 hq hf hd hm.2.2.2.2.2.2)
      · exact h.elim
  | lreturn =>
    simp only [ck1, Bool.and_eq_true, decide_eq_true_eq] at hc
    obtain ⟨⟨rfl, rfl⟩, hr⟩ := hc
    simp only [wp1] at h
    split at h
    · exact s_ret (r := some (vJ _)) h (fun p e s mm args below meth c H locs ls hm hq hf => W.lret hm.1 hm.2.1 (hm.2.2.1.trans hr) hq hf hd hm.2.2.2.2.2.2)
    · exact h.elim
  | return_ =>
    simp only [ck1, Bool.and_eq_true, decide_eq_true_eq] at hc
    obtain ⟨⟨rfl, rfl⟩, hr⟩ := hc
    simp only [wp1] at h
    split at h
    · exact s_ret (r := none) h (fun p e s mm args below meth c H locs ls hm hq hf => W.vret hm.1 hm.2.1 (hm.2.2.1.trans hr) hq hf hd hm.2.2.2.2.2.2)
    · exact h.elim
  | invokestatic j =>
    simp only [ck1, Bool.and_eq_true, Bool.or_eq_true, decide_eq_true_eq] at hc
    obtain ⟨rfl, (⟨⟨⟨rfl, hM⟩, ht⟩, hu⟩ | ⟨rfl, hM⟩) | ⟨rfl, hM⟩⟩ := hc
    · obtain ⟨hb, r, M', hcc, h⟩ := bB_of h
      simp only [Bool.and_eq_true] at hb
      rcases hM with hM | hM
      · exact s_static hd ht hu (hasM1 hM).2 (Or.inl (hasM1 hM).1) (Nat.le_of_ble_eq_true hb.1) (Nat.le_of_ble_eq_true hb.2) hcc (hk _ _ _ _ h)
      · exact s_static hd ht hu (hasM2 hM).2 (Or.inr (hasM2 hM).1) (Nat.le_of_ble_eq_true hb.1) (Nat.le_of_ble_eq_true hb.2) hcc (hk _ _ _ _ h)
    · rcases hM with (⟨rfl, hM⟩ | ⟨rfl, hM⟩) | ⟨rfl, hM⟩
      · obtain ⟨hb, h⟩ := bB_of h
        have hb := Nat.le_of_ble_eq_true hb
        obtain ⟨a, b, S', rfl, h⟩ := tII_of h
        simp only [List.map_cons, List.sum_cons] at hb
        exact s_prim (S' := S') (by omega) (fun ho => okS_tail (okS_tail ho)) (fun p e s mm args below meth c H locs ls Z hm hml hlo hfr k => va_mmax hm.1 hm.2.1 hml hm.2.2.2.2.1 (hm.2.2.2.2.2.1 _ (hasM10 hM)) (hm.2.2.2.2.2.1 _ (qgw_of primW.1 rfl)) (hm.2.2.2.2.2.1 _ (qgw_of primW.2.2.2.2.2.2.2.2.1 rfl)) (hm.2.2.2.2.2.1 _ (qgw_of primW.2.1 rfl)) hfr hlo (Nat.le_refl _) (Nat.le_refl _) hd k) (hk _ _ _ _ h)
      · obtain ⟨hb, h⟩ := bB_of h
        have hb := Nat.le_of_ble_eq_true hb
        obtain ⟨a, b, S', rfl, h⟩ := tII_of h
        simp only [List.map_cons, List.sum_cons] at hb
        exact s_prim (S' := S') (by omega) (fun ho => okS_tail (okS_tail ho)) (fun p e s mm args below meth c H locs ls Z hm hml hlo hfr k => va_mmin hm.1 hm.2.1 hml hm.2.2.2.2.1 (hm.2.2.2.2.2.1 _ (hasM11 hM)) (hm.2.2.2.2.2.1 _ (qgw_of primW.2.2.1 rfl)) (hm.2.2.2.2.2.1 _ (qgw_of primW.2.2.2.2.2.2.2.2.1 rfl)) (hm.2.2.2.2.2.1 _ (qgw_of primW.2.2.2.1 rfl)) hfr hlo (Nat.le_refl _) (Nat.le_refl _) hd k) (hk _ _ _ _ h)
      · obtain ⟨hb, h⟩ := bB_of h
        have hb := Nat.le_of_ble_eq_true hb
        obtain ⟨a, S', rfl, h⟩ := tI_of h
        simp only [List.map_cons, List.sum_cons] at hb
        exact s_prim (S' := S') (by omega) (fun ho => okS_tail ho) (fun p e s mm args below meth c H locs ls Z hm hml hlo hfr k => va_mabs hm.1 hm.2.1 hml hm.2.2.2.2.1 (hm.2.2.2.2.2.1 _ (hasM12 hM)) (hm.2.2.2.2.2.1 _ (qgw_of primW.2.2.2.2.1 rfl)) (hm.2.2.2.2.2.1 _ (qgw_of primW.2.2.2.2.2.2.2.2.1 rfl)) (hm.2.2.2.2.2.1 _ (qgw_of primW.2.2.2.2.2.1 rfl)) hfr hlo (Nat.le_refl _) (Nat.le_refl _) hd k) (hk _ _ _ _ h)
    · obtain ⟨hb, h⟩ := bB_of h
      obtain ⟨c0, a0, c, a, sp, dp, n, S', rfl, h⟩ := tCP_of h
      obtain ⟨hb2, q1, q2, q3, q4, q5, h⟩ := bB_of h
      simp only [Bool.and_eq_true, Nat.beq_eq] at hb2
      exact s_cpy hd (hasM13 hM) hb2.1 hb2.2 q1 q2 q3 q4 q5 (Nat.le_of_ble_eq_true hb) (hk _ _ _ _ (h _ rfl))
  | invokevirtual j =>
    simp only [ck1, Bool.and_eq_true, decide_eq_true_eq] at hc
    obtain ⟨⟨⟨⟨⟨rfl, rfl⟩, hM⟩, ht⟩, hu⟩, ho⟩ := hc
    obtain ⟨hb, r, M', hcc, h⟩ := bB_of h
    simp only [Bool.and_eq_true] at hb
    rw [ho] at hb
    exact s_virtual hd ht hu (hasM0 hM).2 (hasM0 hM).1 (Nat.le_of_ble_eq_true hb.1.1) (Nat.le_of_ble_eq_true hb.1.2) hb.2 hcc (hk _ _ _ _ h)
  | _ => simp [ck1] at hc
theorem qfetch_mem : ∀ {cd : List En} {pc : Nat} {e : Nat × Nat × Int32 × Nat × Nat × List (Int32 × Nat)}, qfetch cd pc = some e → (pc, e) ∈ cd
  | [], pc, e, h => by simp [qfetch] at h
  | x :: r, pc, e, h => by
    unfold qfetch at h
    split at h
    · rename_i hb
      rw [Nat.beq_eq] at hb
      subst hb
      cases h
      exact List.mem_cons_self
    · exact List.mem_cons_of_mem _ (qfetch_mem h)
theorem wpn_sound {X : Cx} {d m : Nat} {cd : List En} {cuts : List (Nat × List Bool)} {Q : Option Vl → Mem → Prop} (hcd : cd.all (chk m (qbt m) (qow m)) = true) : ∀ (n pc : Nat) (L : Lc) (S : List Vl) (M : Mem), wpn X d m cd cuts n pc L S M Q → V X (d + 1) m pc L S M Q
  | 0, pc, L, S, M, h => h.elim
  | n + 1, pc, L, S, M, h => by
    unfold wpn at h
    split at h
    · rename_i npc op x t u tb hf
      refine wp1_sound (all_of hcd (qfetch_mem hf)) (fun pc' L' S' M' hk => ?_) h
      split at hk
      · rename_i mask hm
        exact V.mask (qmask_len mask L') (qmask_sub mask L') hk
      · exact wpn_sound hcd n pc' L' S' M' hk
    · exact h.elim
end
section
/-! from a walk of a method's body to its contract -/
theorem W.mono {p : Program} {l : Launch} {e : Env} {R : Room} {s : State} {m : MethodId} {args : Array Value} {below : List Frame} {meth : Method} {c : Code} {H : Heap} {locs : List Loc} {cells slots : Nat} {Z Z2 : State → Prop} {g : JFrame} (hz : ∀ t, Z t → Z2 t) (h : W p l e R s m args below meth c H locs cells slots Z g) : W p l e R s m args below meth c H locs cells slots Z2 g := by
  intro T hT X
  obtain ⟨t, a, b⟩ := h T hT X
  exact ⟨t, a, hz t b⟩
theorem sl_one {X : Cx} : ∀ {vs : List Vl}, (∀ v ∈ vs, c1 v = true) → lg_sl (vs.map (tv X)) = vs.map (fun v => Slot.val (tv X v))
  | [], _ => rfl
  | v :: vs, h => by
    have h1 := cat_tv (X := X) v (h v List.mem_cons_self)
    have h2 := sl_one (X := X) (vs := vs) (fun w hw => h w (List.mem_cons_of_mem _ hw))
    unfold lg_sl at h2 ⊢
    simp only [List.map_cons, List.flatMap_cons, h2, h1]
    rfl
theorem CC_of {X : Cx} {d m : Nat} {args : List Vl} {M M2 : Mem} {r : Option Vl} (hm : m < qNM) (hr : okR r) (hlen : args.length ≤ qml m) (hc1 : ∀ v ∈ args, c1 v = true)
    (h : V X d m 0 (args.map some ++ List.replicate (qml m - args.length) none) [] M (fun r' M' => r' = r ∧ M' = M2)) : CC X d m args M r M2 := by
  refine ⟨hr, fun hok => Met.ofW (cc := qbt m) (maxL := qml m) (ret := qrt m) (md_of hm).2.2.2.1 rfl ?_⟩
  intro p e s mm args0 below meth c s₁ B hml hv
  obtain ⟨rfl, hG, hP⟩ := hv
  have hts := atoms_spec (ws := Cond.code (qyn m) (qbt m) (qml m) (qrt m) :: qgw) B.pre
  have hown : s.vm.findClass (qcn (qow m)) = some mm.cls := findClass_of_methodNamed B.named
  have hsl := sl_one (X := X) hc1
  have hle : (lg_sl (args.map (tv X))).length ≤ qml m := by rw [hsl, List.length_map]; exact hlen
  have hl := lv_entry (args.map (tv X)) (n := qml m) hle
  rw [lg_entry_eq]
  refine W.mono ?_ (h p e s mm (args.map (tv X)).toArray below meth c s.heap [] _ ⟨⟨B.exec, B.bytes, B.returns, hml, hown, fun w hw => hts w (List.mem_cons_of_mem _ hw), B.notSynchronized⟩, hG, hP, va_S.rf, ⟨hl.1, hl.2.1, ?_⟩, ?_, ?_, fun v hv => by cases hv⟩)
  · rintro t ⟨o, h1, h2, ⟨r', M', h3, ⟨rfl, rfl⟩, h4, h5⟩, L, h6, h7⟩
    exact ⟨o, h1, h2, ⟨h3, h4, h5⟩, L, h6, h7⟩
  · intro i v hi
    rw [hsl]
    rcases Nat.lt_or_ge i args.length with hlt | hge
    · rw [List.getElem?_append_left (by rw [List.length_map]; exact hlt), List.getElem?_map] at hi
      cases ha : args[i]? with
      | none => rw [ha] at hi; cases hi
      | some w =>
        rw [ha] at hi
        have hw : w = v := by simpa using hi
        subst hw
        rw [List.getElem?_toArray, List.getElem?_append_left (by rw [List.length_map]; exact hlt), List.getElem?_map, ha]
        rfl
    · rw [List.getElem?_append_right (by rw [List.length_map]; exact hge)] at hi
      have := List.mem_of_getElem? hi
      rw [List.mem_replicate] at this
      cases this.2
  · rw [List.length_append, List.length_map, List.length_replicate]
    omega
  · intro v hv
    rcases List.mem_append.mp hv with h1 | h1
    · obtain ⟨w, hw, he⟩ := List.mem_map.mp h1
      cases he
      exact hok v hw
    · rw [List.mem_replicate] at h1
      cases h1.2
end
section
/-- ClayBoots$Book.write(IIII)V -/
def k0 : List En := [(0, 1, 2, 0, 0, 0, []), (1, 4, 24, 0, 0, 0, []), (4, 7, 0, 150, 0, 0, []), (7, 10, 20, 0, 11, 2, []), (10, 11, 37, 0, 0, 0, []), (11, 12, 2, 0, 0, 0, []), (12, 15, 24, 0, 0, 0, []), (15, 16, 0, 4, 0, 0, []), (16, 17, 8, 0, 2, 0, []), (17, 19, 4, 0, 5, 0, []), (19, 20, 2, 0, 0, 0, []), (20, 23, 24, 0, 1, 0, []), (23, 25, 1, 0, 5, 0, []), (25, 26, 1, 0, 1, 0, []), (26, 27, 27, 0, 0, 0, []), (27, 28, 2, 0, 0, 0, []), (28, 31, 24, 0, 1, 0, []), (31, 33, 1, 0, 5, 0, []), (33, 34, 0, 1, 0, 0, []), (34, 35, 8, 0, 0, 0, []), (35, 36, 1, 0, 2, 0, []), (36, 37, 27, 0, 0, 0, []), (37, 38, 2, 0, 0, 0, []), (38, 41, 24, 0, 1, 0, []), (41, 43, 1, 0, 5, 0, []), (43, 44, 0, 2, 0, 0, []), (44, 45, 8, 0, 0, 0, []), (45, 46, 1, 0, 3, 0, []), (46, 47, 27, 0, 0, 0, []), (47, 48, 2, 0, 0, 0, []), (48, 51, 24, 0, 1, 0, []), (51, 53, 1, 0, 5, 0, []), (53, 54, 0, 3, 0, 0, []), (54, 55, 8, 0, 0, 0, []), (55, 57, 1, 0, 4, 0, []), (57, 58, 27, 0, 0, 0, []), (58, 59, 2, 0, 0, 0, []), (59, 60, 15, 0, 0, 0, []), (60, 63, 24, 0, 0, 0, []), (63, 64, 0, 1, 0, 0, []), (64, 65, 8, 0, 0, 0, []), (65, 68, 25, 0, 0, 0, []), (68, 69, 37, 0, 0, 0, [])]
set_option maxRecDepth 100000 in
theorem ok0 : k0.all (chk 0 (qbt 0) (qow 0)) = true := by decide +kernel
/-- ClayBoots$Book.become(LClayBoots$Book;)V -/
def k1 : List En := [(0, 1, 2, 0, 0, 0, []), (1, 2, 2, 0, 1, 0, []), (2, 5, 24, 0, 0, 0, []), (5, 8, 25, 0, 0, 0, []), (8, 9, 2, 0, 1, 0, []), (9, 12, 24, 0, 1, 0, []), (12, 13, 0, 0, 0, 0, []), (13, 14, 2, 0, 0, 0, []), (14, 17, 24, 0, 1, 0, []), (17, 18, 0, 0, 0, 0, []), (18, 19, 2, 0, 0, 0, []), (19, 22, 24, 0, 1, 0, []), (22, 23, 33, 0, 0, 0, []), (23, 26, 40, 0, 0, 0, []), (26, 27, 37, 0, 0, 0, [])]
set_option maxRecDepth 100000 in
theorem ok1 : k1.all (chk 1 (qbt 1) (qow 1)) = true := by decide +kernel
/-- ClayBoots$Law.become(LClayBoots$Law;)V -/
def k2 : List En := [(0, 1, 2, 0, 0, 0, []), (1, 2, 2, 0, 1, 0, []), (2, 5, 24, 0, 0, 2, []), (5, 8, 25, 0, 0, 2, []), (8, 9, 2, 0, 0, 0, []), (9, 10, 2, 0, 1, 0, []), (10, 13, 24, 0, 1, 2, []), (13, 16, 25, 0, 1, 2, []), (16, 17, 2, 0, 1, 0, []), (17, 20, 24, 0, 2, 2, []), (20, 21, 0, 0, 0, 0, []), (21, 22, 2, 0, 0, 0, []), (22, 25, 24, 0, 2, 2, []), (25, 26, 0, 0, 0, 0, []), (26, 28, 0, 16, 0, 0, []), (28, 31, 40, 0, 0, 0, []), (31, 32, 2, 0, 1, 0, []), (32, 35, 24, 0, 3, 2, []), (35, 36, 0, 0, 0, 0, []), (36, 37, 2, 0, 0, 0, []), (37, 40, 24, 0, 3, 2, []), (40, 41, 0, 0, 0, 0, []), (41, 43, 0, 16, 0, 0, []), (43, 46, 40, 0, 0, 0, []), (46, 47, 2, 0, 1, 0, []), (47, 50, 24, 0, 4, 2, []), (50, 51, 0, 0, 0, 0, []), (51, 52, 2, 0, 0, 0, []), (52, 55, 24, 0, 4, 2, []), (55, 56, 0, 0, 0, 0, []), (56, 58, 0, 16, 0, 0, []), (58, 61, 40, 0, 0, 0, []), (61, 62, 2, 0, 1, 0, []), (62, 65, 24, 0, 5, 2, []), (65, 66, 0, 0, 0, 0, []), (66, 67, 2, 0, 0, 0, []), (67, 70, 24, 0, 5, 2, []), (70, 71, 0, 0, 0, 0, []), (71, 73, 0, 16, 0, 0, []), (73, 76, 40, 0, 0, 0, []), (76, 77, 2, 0, 1, 0, []), (77, 80, 24, 0, 6, 2, []), (80, 81, 0, 0, 0, 0, []), (81, 82, 2, 0, 0, 0, []), (82, 85, 24, 0, 6, 2, []), (85, 86, 0, 0, 0, 0, []), (86, 89, 0, 400, 0, 0, []), (89, 92, 40, 0, 0, 0, []), (92, 93, 37, 0, 0, 0, [])]
set_option maxRecDepth 100000 in
theorem ok2 : k2.all (chk 2 (qbt 2) (qow 2)) = true := by decide +kernel
/-- ClayBoots$Law.clear()V -/
def k3 : List En := [(0, 1, 2, 0, 0, 0, []), (1, 2, 0, 0, 0, 0, []), (2, 5, 25, 0, 0, 2, []), (5, 6, 2, 0, 0, 0, []), (6, 7, 0, 0, 0, 0, []), (7, 10, 25, 0, 1, 2, []), (10, 11, 37, 0, 0, 0, [])]
set_option maxRecDepth 100000 in
theorem ok3 : k3.all (chk 3 (qbt 3) (qow 3)) = true := by decide +kernel
/-- ClayBoots$Law.emit(I)V -/
def k4 : List En := [(0, 1, 2, 0, 0, 0, []), (1, 4, 24, 0, 1, 2, []), (4, 7, 0, 400, 0, 0, []), (7, 10, 20, 0, 30, 3, []), (10, 11, 2, 0, 0, 0, []), (11, 14, 24, 0, 6, 2, []), (14, 15, 2, 0, 0, 0, []), (15, 18, 24, 0, 1, 2, []), (18, 19, 1, 0, 1, 0, []), (19, 20, 27, 0, 0, 0, []), (20, 21, 2, 0, 0, 0, []), (21, 22, 15, 0, 0, 0, []), (22, 25, 24, 0, 1, 2, []), (25, 26, 0, 1, 0, 0, []), (26, 27, 8, 0, 0, 0, []), (27, 30, 25, 0, 1, 2, []), (30, 31, 37, 0, 0, 0, [])]
set_option maxRecDepth 100000 in
theorem ok4 : k4.all (chk 4 (qbt 4) (qow 4)) = true := by decide +kernel
/-- ClayBoots$Law.answer(I[I)I -/
def k5 : List En := [(0, 1, 0, 0, 0, 0, []), (1, 2, 4, 0, 3, 0, []), (2, 3, 1, 0, 3, 0, []), (3, 4, 2, 0, 0, 0, []), (4, 7, 24, 0, 0, 2, []), (7, 10, 20, 0, 85, 3, []), (10, 11, 1, 0, 3, 0, []), (11, 13, 0, 16, 0, 0, []), (13, 16, 20, 0, 85, 3, []), (16, 17, 2, 0, 0, 0, []), (17, 20, 24, 0, 2, 2, []), (20, 21, 1, 0, 3, 0, []), (21, 22, 26, 0, 0, 0, []), (22, 23, 1, 0, 1, 0, []), (23, 26, 20, 0, 79, 1, []), (26, 27, 2, 0, 0, 0, []), (27, 30, 24, 0, 4, 2, []), (30, 31, 1, 0, 3, 0, []), (31, 32, 26, 0, 0, 0, []), (32, 33, 2, 0, 0, 0, []), (33, 36, 24, 0, 5, 2, []), (36, 37, 1, 0, 3, 0, []), (37, 38, 26, 0, 0, 0, []), (38, 41, 20, 0, 61, 0, []), (41, 42, 2, 0, 0, 0, []), (42, 43, 2, 0, 0, 0, []), (43, 46, 24, 0, 4, 2, []), (46, 47, 1, 0, 3, 0, []), (47, 48, 26, 0, 0, 0, []), (48, 49, 2, 0, 0, 0, []), (49, 52, 24, 0, 5, 2, []), (52, 53, 1, 0, 3, 0, []), (53, 54, 26, 0, 0, 0, []), (54, 55, 2, 0, 2, 0, []), (55, 58, 44, 0, 6, 4, [(0, 2)]), (58, 61, 19, 0, 79, 0, []), (61, 62, 2, 0, 0, 0, []), (62, 63, 2, 0, 0, 0, []), (63, 66, 24, 0, 3, 2, []), (66, 67, 1, 0, 3, 0, []), (67, 68, 26, 0, 0, 0, []), (68, 69, 2, 0, 0, 0, []), (69, 72, 24, 0, 4, 2, []), (72, 73, 1, 0, 3, 0, []), (73, 74, 26, 0, 0, 0, []), (74, 75, 2, 0, 2, 0, []), (75, 78, 44, 0, 6, 4, [(0, 2)]), (78, 79, 34, 0, 0, 0, []), (79, 82, 7, 1, 3, 0, []), (82, 85, 18, 0, 2, 0, []), (85, 86, 1, 0, 1, 0, []), (86, 89, 0, 10010, 0, 0, []), (89, 92, 20, 0, 100, 1, []), (92, 93, 2, 0, 2, 0, []), (93, 94, 0, 0, 0, 0, []), (94, 95, 26, 0, 0, 0, []), (95, 96, 2, 0, 2, 0, []), (96, 97, 0, 5, 0, 0, []), (97, 98, 26, 0, 0, 0, []), (98, 99, 8, 0, 0, 0, []), (99, 100, 34, 0, 0, 0, []), (100, 101, 1, 0, 1, 0, []), (101, 104, 0, 10011, 0, 0, []), (104, 107, 20, 0, 113, 1, []), (107, 110, 0, 500, 0, 0, []), (110, 113, 18, 0, 114, 0, []), (113, 114, 0, 0, 0, 0, []), (114, 115, 34, 0, 0, 0, [])]
set_option maxRecDepth 100000 in
theorem ok5 : k5.all (chk 5 (qbt 5) (qow 5)) = true := by decide +kernel
/-- ClayBoots$Law.reckon(II[I)I -/
def k6 : List En := [(0, 1, 0, 0, 0, 0, []), (1, 3, 4, 0, 4, 0, []), (3, 4, 1, 0, 1, 0, []), (4, 6, 4, 0, 5, 0, []), (6, 8, 1, 0, 5, 0, []), (8, 11, 19, 0, 169, 2, []), (11, 13, 1, 0, 5, 0, []), (13, 14, 1, 0, 2, 0, []), (14, 17, 20, 0, 169, 3, []), (17, 19, 1, 0, 5, 0, []), (19, 22, 0, 400, 0, 0, []), (22, 25, 20, 0, 169, 3, []), (25, 26, 2, 0, 0, 0, []), (26, 29, 24, 0, 6, 2, []), (29, 31, 1, 0, 5, 0, []), (31, 32, 26, 0, 0, 0, []), (32, 34, 4, 0, 6, 0, []), (34, 36, 1, 0, 6, 0, []), (36, 39, 0, 10016, 0, 0, []), (39, 42, 20, 0, 70, 1, []), (42, 44, 1, 0, 4, 0, []), (44, 47, 19, 0, 163, 5, []), (47, 48, 2, 0, 0, 0, []), (48, 51, 24, 0, 7, 2, []), (51, 53, 1, 0, 4, 0, []), (53, 54, 0, 1, 0, 0, []), (54, 55, 8, 0, 1, 0, []), (55, 56, 0, 1, 0, 0, []), (56, 57, 2, 0, 0, 0, []), (57, 60, 24, 0, 7, 2, []), (60, 62, 1, 0, 4, 0, []), (62, 63, 0, 1, 0, 0, []), (63, 64, 8, 0, 1, 0, []), (64, 65, 26, 0, 0, 0, []), (65, 66, 8, 0, 1, 0, []), (66, 67, 27, 0, 0, 0, []), (67, 70, 18, 0, 163, 0, []), (70, 72, 1, 0, 6, 0, []), (72, 75, 19, 0, 124, 2, []), (75, 77, 1, 0, 6, 0, []), (77, 80, 0, 10010, 0, 0, []), (80, 83, 20, 0, 124, 3, []), (83, 85, 1, 0, 4, 0, []), (85, 87, 0, 32, 0, 0, []), (87, 90, 20, 0, 163, 3, []), (90, 91, 2, 0, 0, 0, []), (91, 94, 24, 0, 7, 2, []), (94, 96, 1, 0, 4, 0, []), (96, 98, 1, 0, 6, 0, []), (98, 101, 0, 10000, 0, 0, []), (101, 104, 20, 0, 109, 3, []), (104, 106, 1, 0, 6, 0, []), (106, 109, 18, 0, 117, 0, []), (109, 110, 2, 0, 3, 0, []), (110, 112, 1, 0, 6, 0, []), (112, 115, 0, 10000, 0, 0, []), (115, 116, 8, 0, 1, 0, []), (116, 117, 26, 0, 0, 0, []), (117, 118, 27, 0, 0, 0, []), (118, 121, 7, 1, 4, 0, []), (121, 124, 18, 0, 163, 0, []), (124, 126, 1, 0, 4, 0, []), (126, 127, 0, 1, 0, 0, []), (127, 130, 20, 0, 163, 5, []), (130, 133, 7, -1, 4, 0, []), (133, 134, 2, 0, 0, 0, []), (134, 137, 24, 0, 7, 2, []), (137, 139, 1, 0, 4, 0, []), (139, 140, 0, 1, 0, 0, []), (140, 141, 8, 0, 1, 0, []), (141, 143, 1, 0, 6, 0, []), (143, 144, 2, 0, 0, 0, []), (144, 147, 24, 0, 7, 2, []), (147, 149, 1, 0, 4, 0, []), (149, 150, 0, 1, 0, 0, []), (150, 151, 8, 0, 1, 0, []), (151, 152, 26, 0, 0, 0, []), (152, 153, 2, 0, 0, 0, []), (153, 156, 24, 0, 7, 2, []), (156, 158, 1, 0, 4, 0, []), (158, 159, 26, 0, 0, 0, []), (159, 162, 38, 0, 7, 3, []), (162, 163, 27, 0, 0, 0, []), (163, 166, 7, 1, 5, 0, []), (166, 169, 18, 0, 6, 0, []), (169, 171, 1, 0, 4, 0, []), (171, 174, 19, 0, 186, 5, []), (174, 175, 2, 0, 0, 0, []), (175, 178, 24, 0, 7, 2, []), (178, 180, 1, 0, 4, 0, []), (180, 181, 0, 1, 0, 0, []), (181, 182, 8, 0, 1, 0, []), (182, 183, 26, 0, 0, 0, []), (183, 186, 18, 0, 187, 0, []), (186, 187, 0, 0, 0, 0, []), (187, 188, 34, 0, 0, 0, [])]
set_option maxRecDepth 100000 in
theorem ok6 : k6.all (chk 6 (qbt 6) (qow 6)) = true := by decide +kernel
/-- ClayBoots$Law.joined(III)I -/
def k7 : List En := [(0, 1, 1, 0, 0, 0, []), (1, 84, 23, 0, 149, 0, [(10014, 145), (10015, 141), (20042, 92), (20043, 84), (20045, 88), (20047, 96), (20060, 108), (20061, 119), (20062, 130)]), (84, 85, 1, 0, 1, 0, []), (85, 86, 1, 0, 2, 0, []), (86, 87, 8, 0, 0, 0, []), (87, 88, 34, 0, 0, 0, []), (88, 89, 1, 0, 1, 0, []), (89, 90, 1, 0, 2, 0, []), (90, 91, 8, 0, 1, 0, []), (91, 92, 34, 0, 0, 0, []), (92, 93, 1, 0, 1, 0, []), (93, 94, 1, 0, 2, 0, []), (94, 95, 8, 0, 2, 0, []), (95, 96, 34, 0, 0, 0, []), (96, 97, 1, 0, 2, 0, []), (97, 100, 19, 0, 104, 1, []), (100, 101, 0, 0, 0, 0, []), (101, 104, 18, 0, 107, 0, []), (104, 105, 1, 0, 1, 0, []), (105, 106, 1, 0, 2, 0, []), (106, 107, 9, 0, 0, 0, []), (107, 108, 34, 0, 0, 0, []), (108, 109, 1, 0, 1, 0, []), (109, 110, 1, 0, 2, 0, []), (110, 113, 20, 0, 117, 3, []), (113, 114, 0, 1, 0, 0, []), (114, 117, 18, 0, 118, 0, []), (117, 118, 0, 0, 0, 0, []), (118, 119, 34, 0, 0, 0, []), (119, 120, 1, 0, 1, 0, []), (120, 121, 1, 0, 2, 0, []), (121, 124, 20, 0, 128, 1, []), (124, 125, 0, 1, 0, 0, []), (125, 128, 18, 0, 129, 0, []), (128, 129, 0, 0, 0, 0, []), (129, 130, 34, 0, 0, 0, []), (130, 131, 1, 0, 1, 0, []), (131, 132, 1, 0, 2, 0, []), (132, 135, 20, 0, 139, 5, []), (135, 136, 0, 1, 0, 0, []), (136, 139, 18, 0, 140, 0, []), (139, 140, 0, 0, 0, 0, []), (140, 141, 34, 0, 0, 0, []), (141, 142, 1, 0, 1, 0, []), (142, 143, 1, 0, 2, 0, []), (143, 144, 8, 0, 3, 0, []), (144, 145, 34, 0, 0, 0, []), (145, 146, 1, 0, 1, 0, []), (146, 147, 1, 0, 2, 0, []), (147, 148, 8, 0, 4, 0, []), (148, 149, 34, 0, 0, 0, []), (149, 150, 0, 0, 0, 0, []), (150, 151, 34, 0, 0, 0, [])]
set_option maxRecDepth 100000 in
theorem ok7 : k7.all (chk 7 (qbt 7) (qow 7)) = true := by decide +kernel
/-- ClayBoots$Past.keep(LClayBoots$Shire;)V -/
def k8 : List En := [(0, 1, 2, 0, 0, 0, []), (1, 4, 24, 0, 1, 3, []), (4, 7, 19, 0, 28, 2, []), (7, 8, 2, 0, 0, 0, []), (8, 11, 24, 0, 1, 3, []), (11, 13, 0, 6, 0, 0, []), (13, 16, 20, 0, 28, 3, []), (16, 17, 2, 0, 0, 0, []), (17, 20, 24, 0, 2, 3, []), (20, 21, 2, 0, 0, 0, []), (21, 24, 24, 0, 1, 3, []), (24, 25, 32, 0, 0, 0, []), (25, 28, 18, 0, 29, 0, []), (28, 29, 43, 0, 0, 0, []), (29, 30, 5, 0, 2, 0, []), (30, 31, 2, 0, 2, 0, []), (31, 34, 21, 0, 67, 0, []), (34, 35, 2, 0, 2, 0, []), (35, 36, 2, 0, 1, 0, []), (36, 39, 44, 0, 53, 2, [(0, 6)]), (39, 40, 2, 0, 0, 0, []), (40, 41, 2, 0, 0, 0, []), (41, 44, 24, 0, 1, 3, []), (44, 45, 0, 1, 0, 0, []), (45, 46, 8, 0, 0, 0, []), (46, 48, 0, 6, 0, 0, []), (48, 49, 10, 0, 0, 0, []), (49, 52, 25, 0, 1, 3, []), (52, 53, 2, 0, 0, 0, []), (53, 55, 0, 6, 0, 0, []), (55, 56, 2, 0, 0, 0, []), (56, 59, 24, 0, 0, 3, []), (59, 60, 0, 1, 0, 0, []), (60, 61, 8, 0, 0, 0, []), (61, 64, 39, 0, 1, 0, []), (64, 67, 25, 0, 0, 3, []), (67, 68, 37, 0, 0, 0, [])]
set_option maxRecDepth 100000 in
theorem ok8 : k8.all (chk 8 (qbt 8) (qow 8)) = true := by decide +kernel
/-- ClayBoots$Past.bringBack(LClayBoots$Shire;)Z -/
def k9 : List En := [(0, 1, 2, 0, 0, 0, []), (1, 4, 24, 0, 1, 3, []), (4, 6, 0, 6, 0, 0, []), (6, 7, 8, 0, 0, 0, []), (7, 8, 0, 1, 0, 0, []), (8, 9, 8, 0, 1, 0, []), (9, 11, 0, 6, 0, 0, []), (11, 12, 10, 0, 0, 0, []), (12, 13, 4, 0, 2, 0, []), (13, 14, 1, 0, 2, 0, []), (14, 17, 19, 0, 32, 2, []), (17, 18, 1, 0, 2, 0, []), (18, 20, 0, 6, 0, 0, []), (20, 23, 20, 0, 32, 3, []), (23, 24, 2, 0, 0, 0, []), (24, 27, 24, 0, 2, 3, []), (27, 28, 1, 0, 2, 0, []), (28, 29, 32, 0, 0, 0, []), (29, 32, 18, 0, 33, 0, []), (32, 33, 43, 0, 0, 0, []), (33, 34, 5, 0, 3, 0, []), (34, 35, 2, 0, 0, 0, []), (35, 38, 24, 0, 0, 3, []), (38, 41, 19, 0, 45, 0, []), (41, 42, 2, 0, 3, 0, []), (42, 45, 22, 0, 47, 0, []), (45, 46, 0, 0, 0, 0, []), (46, 47, 35, 0, 0, 0, []), (47, 48, 2, 0, 1, 0, []), (48, 49, 2, 0, 3, 0, []), (49, 52, 44, 0, 53, 2, [(0, 6)]), (52, 53, 2, 0, 0, 0, []), (53, 54, 1, 0, 2, 0, []), (54, 57, 25, 0, 1, 3, []), (57, 58, 2, 0, 0, 0, []), (58, 59, 15, 0, 0, 0, []), (59, 62, 24, 0, 0, 3, []), (62, 63, 0, 1, 0, 0, []), (63, 64, 8, 0, 1, 0, []), (64, 67, 25, 0, 0, 3, []), (67, 68, 0, 1, 0, 0, []), (68, 69, 35, 0, 0, 0, [])]
set_option maxRecDepth 100000 in
theorem ok9 : k9.all (chk 9 (qbt 9) (qow 9)) = true := by decide +kernel
/-- ClayBoots$Past.forget()V -/
def k10 : List En := [(0, 1, 2, 0, 0, 0, []), (1, 2, 0, 0, 0, 0, []), (2, 5, 25, 0, 0, 3, []), (5, 6, 37, 0, 0, 0, [])]
set_option maxRecDepth 100000 in
theorem ok10 : k10.all (chk 10 (qbt 10) (qow 10)) = true := by decide +kernel
/-- ClayBoots$Plans.become(LClayBoots$Plans;)V -/
def k11 : List En := [(0, 1, 2, 0, 0, 0, []), (1, 2, 2, 0, 1, 0, []), (2, 5, 44, 0, 12, 2, [(0, 4)]), (5, 6, 2, 0, 0, 0, []), (6, 7, 2, 0, 1, 0, []), (7, 10, 44, 0, 13, 2, [(0, 4)]), (10, 11, 2, 0, 0, 0, []), (11, 12, 2, 0, 1, 0, []), (12, 15, 44, 0, 14, 2, [(0, 4)]), (15, 16, 37, 0, 0, 0, [])]
set_option maxRecDepth 100000 in
theorem ok11 : k11.all (chk 11 (qbt 11) (qow 11)) = true := by decide +kernel
/-- ClayBoots$Plans.becomeCalls(LClayBoots$Plans;)V -/
def k12 : List En := [(0, 1, 2, 0, 0, 0, []), (1, 2, 2, 0, 1, 0, []), (2, 5, 24, 0, 0, 4, []), (5, 8, 25, 0, 0, 4, []), (8, 9, 2, 0, 1, 0, []), (9, 12, 24, 0, 3, 4, []), (12, 13, 0, 0, 0, 0, []), (13, 14, 2, 0, 0, 0, []), (14, 17, 24, 0, 3, 4, []), (17, 18, 0, 0, 0, 0, []), (18, 20, 0, 16, 0, 0, []), (20, 23, 40, 0, 0, 0, []), (23, 24, 2, 0, 1, 0, []), (24, 27, 24, 0, 4, 4, []), (27, 28, 0, 0, 0, 0, []), (28, 29, 2, 0, 0, 0, []), (29, 32, 24, 0, 4, 4, []), (32, 33, 0, 0, 0, 0, []), (33, 35, 0, 16, 0, 0, []), (35, 38, 40, 0, 0, 0, []), (38, 39, 2, 0, 1, 0, []), (39, 42, 24, 0, 5, 4, []), (42, 43, 0, 0, 0, 0, []), (43, 44, 2, 0, 0, 0, []), (44, 47, 24, 0, 5, 4, []), (47, 48, 0, 0, 0, 0, []), (48, 50, 0, 16, 0, 0, []), (50, 53, 40, 0, 0, 0, []), (53, 54, 2, 0, 1, 0, []), (54, 57, 24, 0, 6, 4, []), (57, 58, 0, 0, 0, 0, []), (58, 59, 2, 0, 0, 0, []), (59, 62, 24, 0, 6, 4, []), (62, 63, 0, 0, 0, 0, []), (63, 65, 0, 16, 0, 0, []), (65, 68, 40, 0, 0, 0, []), (68, 69, 37, 0, 0, 0, [])]
set_option maxRecDepth 100000 in
theorem ok12 : k12.all (chk 12 (qbt 12) (qow 12)) = true := by decide +kernel
/-- ClayBoots$Plans.becomeSky(LClayBoots$Plans;)V -/
def k13 : List En := [(0, 1, 2, 0, 0, 0, []), (1, 2, 2, 0, 1, 0, []), (2, 5, 24, 0, 1, 4, []), (5, 8, 25, 0, 1, 4, []), (8, 9, 2, 0, 1, 0, []), (9, 12, 24, 0, 7, 4, []), (12, 13, 0, 0, 0, 0, []), (13, 14, 2, 0, 0, 0, []), (14, 17, 24, 0, 7, 4, []), (17, 18, 0, 0, 0, 0, []), (18, 20, 0, 16, 0, 0, []), (20, 23, 40, 0, 0, 0, []), (23, 24, 2, 0, 1, 0, []), (24, 27, 24, 0, 8, 4, []), (27, 28, 0, 0, 0, 0, []), (28, 29, 2, 0, 0, 0, []), (29, 32, 24, 0, 8, 4, []), (32, 33, 0, 0, 0, 0, []), (33, 35, 0, 16, 0, 0, []), (35, 38, 40, 0, 0, 0, []), (38, 39, 37, 0, 0, 0, [])]
set_option maxRecDepth 100000 in
theorem ok13 : k13.all (chk 13 (qbt 13) (qow 13)) = true := by decide +kernel
/-- ClayBoots$Plans.becomeWays(LClayBoots$Plans;)V -/
def k14 : List En := [(0, 1, 2, 0, 0, 0, []), (1, 2, 2, 0, 1, 0, []), (2, 5, 24, 0, 2, 4, []), (5, 8, 25, 0, 2, 4, []), (8, 9, 2, 0, 1, 0, []), (9, 12, 24, 0, 9, 4, []), (12, 13, 0, 0, 0, 0, []), (13, 14, 2, 0, 0, 0, []), (14, 17, 24, 0, 9, 4, []), (17, 18, 0, 0, 0, 0, []), (18, 20, 0, 64, 0, 0, []), (20, 23, 40, 0, 0, 0, []), (23, 24, 37, 0, 0, 0, [])]
set_option maxRecDepth 100000 in
theorem ok14 : k14.all (chk 14 (qbt 14) (qow 14)) = true := by decide +kernel
/-- ClayBoots$Plans.clear()V -/
def k15 : List En := [(0, 1, 2, 0, 0, 0, []), (1, 2, 0, 0, 0, 0, []), (2, 5, 25, 0, 0, 4, []), (5, 6, 2, 0, 0, 0, []), (6, 7, 0, 0, 0, 0, []), (7, 10, 25, 0, 1, 4, []), (10, 11, 2, 0, 0, 0, []), (11, 12, 0, 0, 0, 0, []), (12, 15, 25, 0, 2, 4, []), (15, 16, 0, 0, 0, 0, []), (16, 17, 4, 0, 1, 0, []), (17, 18, 1, 0, 1, 0, []), (18, 20, 0, 64, 0, 0, []), (20, 23, 20, 0, 36, 3, []), (23, 24, 2, 0, 0, 0, []), (24, 27, 24, 0, 9, 4, []), (27, 28, 1, 0, 1, 0, []), (28, 29, 0, 0, 0, 0, []), (29, 30, 27, 0, 0, 0, []), (30, 33, 7, 1, 1, 0, []), (33, 36, 18, 0, 17, 0, []), (36, 37, 37, 0, 0, 0, [])]
set_option maxRecDepth 100000 in
theorem ok15 : k15.all (chk 15 (qbt 15) (qow 15)) = true := by decide +kernel
/-- ClayBoots$Plans.skyOf(LClayBoots$Shire;)V -/
def k16 : List En := [(0, 1, 0, 0, 0, 0, []), (1, 2, 4, 0, 2, 0, []), (2, 3, 1, 0, 2, 0, []), (3, 4, 2, 0, 0, 0, []), (4, 7, 24, 0, 1, 4, []), (7, 10, 20, 0, 79, 3, []), (10, 11, 1, 0, 2, 0, []), (11, 13, 0, 16, 0, 0, []), (13, 16, 20, 0, 79, 3, []), (16, 17, 2, 0, 0, 0, []), (17, 20, 24, 0, 7, 4, []), (20, 21, 1, 0, 2, 0, []), (21, 22, 26, 0, 0, 0, []), (22, 23, 2, 0, 1, 0, []), (23, 26, 24, 0, 4, 6, []), (26, 29, 20, 0, 73, 1, []), (29, 30, 2, 0, 0, 0, []), (30, 33, 24, 0, 8, 4, []), (33, 34, 1, 0, 2, 0, []), (34, 35, 26, 0, 0, 0, []), (35, 37, 0, 9, 0, 0, []), (37, 40, 20, 0, 53, 4, []), (40, 41, 2, 0, 1, 0, []), (41, 42, 2, 0, 0, 0, []), (42, 45, 24, 0, 8, 4, []), (45, 46, 1, 0, 2, 0, []), (46, 47, 26, 0, 0, 0, []), (47, 50, 25, 0, 1, 6, []), (50, 53, 18, 0, 73, 0, []), (53, 54, 2, 0, 1, 0, []), (54, 55, 2, 0, 0, 0, []), (55, 58, 24, 0, 8, 4, []), (58, 59, 1, 0, 2, 0, []), (59, 60, 26, 0, 0, 0, []), (60, 62, 0, 10, 0, 0, []), (62, 65, 20, 0, 69, 1, []), (65, 66, 0, 1, 0, 0, []), (66, 69, 18, 0, 70, 0, []), (69, 70, 0, 0, 0, 0, []), (70, 73, 25, 0, 2, 6, []), (73, 76, 7, 1, 2, 0, []), (76, 79, 18, 0, 2, 0, []), (79, 80, 37, 0, 0, 0, [])]
set_option maxRecDepth 100000 in
theorem ok16 : k16.all (chk 16 (qbt 16) (qow 16)) = true := by decide +kernel
/-- ClayBoots$Plans.addWay(III)V -/
def k17 : List En := [(0, 1, 1, 0, 1, 0, []), (1, 2, 0, 0, 0, 0, []), (2, 4, 0, 7, 0, 0, []), (4, 7, 38, 0, 146, 3, []), (7, 10, 19, 0, 20, 0, []), (10, 11, 1, 0, 2, 0, []), (11, 12, 0, 0, 0, 0, []), (12, 14, 0, 7, 0, 0, []), (14, 17, 38, 0, 146, 3, []), (17, 20, 19, 0, 21, 1, []), (20, 21, 37, 0, 0, 0, []), (21, 22, 2, 0, 0, 0, []), (22, 25, 24, 0, 9, 4, []), (25, 26, 1, 0, 1, 0, []), (26, 28, 0, 8, 0, 0, []), (28, 29, 8, 0, 2, 0, []), (29, 30, 1, 0, 2, 0, []), (30, 31, 8, 0, 0, 0, []), (31, 32, 26, 0, 0, 0, []), (32, 34, 4, 0, 4, 0, []), (34, 36, 1, 0, 4, 0, []), (36, 39, 19, 0, 45, 0, []), (39, 40, 1, 0, 3, 0, []), (40, 42, 1, 0, 4, 0, []), (42, 45, 20, 0, 69, 3, []), (45, 46, 2, 0, 0, 0, []), (46, 49, 24, 0, 9, 4, []), (49, 50, 1, 0, 1, 0, []), (50, 52, 0, 8, 0, 0, []), (52, 53, 8, 0, 2, 0, []), (53, 54, 1, 0, 2, 0, []), (54, 55, 8, 0, 0, 0, []), (55, 56, 1, 0, 3, 0, []), (56, 57, 27, 0, 0, 0, []), (57, 58, 2, 0, 0, 0, []), (58, 61, 24, 0, 9, 4, []), (61, 62, 1, 0, 2, 0, []), (62, 64, 0, 8, 0, 0, []), (64, 65, 8, 0, 2, 0, []), (65, 66, 1, 0, 1, 0, []), (66, 67, 8, 0, 0, 0, []), (67, 68, 1, 0, 3, 0, []), (68, 69, 27, 0, 0, 0, []), (69, 70, 37, 0, 0, 0, [])]
set_option maxRecDepth 100000 in
theorem ok17 : k17.all (chk 17 (qbt 17) (qow 17)) = true := by decide +kernel
/-- ClayBoots$Plans.wayBetween(II)I -/
def k18 : List En := [(0, 1, 1, 0, 1, 0, []), (1, 2, 0, 0, 0, 0, []), (2, 4, 0, 7, 0, 0, []), (4, 7, 38, 0, 146, 3, []), (7, 10, 19, 0, 20, 0, []), (10, 11, 1, 0, 2, 0, []), (11, 12, 0, 0, 0, 0, []), (12, 14, 0, 7, 0, 0, []), (14, 17, 38, 0, 146, 3, []), (17, 20, 19, 0, 22, 1, []), (20, 21, 0, -1, 0, 0, []), (21, 22, 34, 0, 0, 0, []), (22, 23, 2, 0, 0, 0, []), (23, 26, 24, 0, 9, 4, []), (26, 27, 1, 0, 1, 0, []), (27, 29, 0, 8, 0, 0, []), (29, 30, 8, 0, 2, 0, []), (30, 31, 1, 0, 2, 0, []), (31, 32, 8, 0, 0, 0, []), (32, 33, 26, 0, 0, 0, []), (33, 34, 4, 0, 3, 0, []), (34, 35, 1, 0, 3, 0, []), (35, 38, 19, 0, 42, 1, []), (38, 39, 0, -1, 0, 0, []), (39, 42, 18, 0, 43, 0, []), (42, 43, 1, 0, 3, 0, []), (43, 44, 34, 0, 0, 0, [])]
set_option maxRecDepth 100000 in
theorem ok18 : k18.all (chk 18 (qbt 18) (qow 18)) = true := by decide +kernel
/-- ClayBoots$Plans.leastSum(I)I -/
def k19 : List En := [(0, 1, 1, 0, 1, 0, []), (1, 4, 19, 0, 8, 1, []), (4, 5, 0, 0, 0, 0, []), (5, 8, 18, 0, 15, 0, []), (8, 9, 2, 0, 0, 0, []), (9, 10, 0, 0, 0, 0, []), (10, 11, 1, 0, 1, 0, []), (11, 12, 0, 0, 0, 0, []), (12, 15, 44, 0, 21, 4, [(0, 4)]), (15, 16, 34, 0, 0, 0, [])]
set_option maxRecDepth 100000 in
theorem ok19 : k19.all (chk 19 (qbt 19) (qow 19)) = true := by decide +kernel
/-- ClayBoots$Plans.apart(III)I -/
def k20 : List En := [(0, 1, 2, 0, 0, 0, []), (1, 2, 1, 0, 1, 0, []), (2, 3, 1, 0, 3, 0, []), (3, 4, 0, 1, 0, 0, []), (4, 7, 44, 0, 21, 4, [(0, 4)]), (7, 8, 17, 0, 0, 0, []), (8, 9, 1, 0, 2, 0, []), (9, 10, 0, 0, 0, 0, []), (10, 12, 0, 7, 0, 0, []), (12, 15, 38, 0, 146, 3, []), (15, 18, 19, 0, 36, 0, []), (18, 19, 2, 0, 0, 0, []), (19, 22, 24, 0, 11, 4, []), (22, 23, 1, 0, 2, 0, []), (23, 24, 28, 0, 0, 0, []), (24, 27, 19, 0, 36, 0, []), (27, 28, 2, 0, 0, 0, []), (28, 31, 24, 0, 10, 4, []), (31, 32, 1, 0, 2, 0, []), (32, 33, 26, 0, 0, 0, []), (33, 36, 18, 0, 37, 0, []), (36, 37, 0, -1, 0, 0, []), (37, 38, 34, 0, 0, 0, [])]
set_option maxRecDepth 100000 in
theorem ok20 : k20.all (chk 20 (qbt 20) (qow 20)) = true := by decide +kernel
/-- ClayBoots$Plans.spread(IIZ)I -/
def k21 : List En := [(0, 1, 0, 0, 0, 0, []), (1, 3, 4, 0, 4, 0, []), (3, 5, 1, 0, 4, 0, []), (5, 7, 0, 8, 0, 0, []), (7, 10, 20, 0, 43, 3, []), (10, 11, 2, 0, 0, 0, []), (11, 14, 24, 0, 10, 4, []), (14, 16, 1, 0, 4, 0, []), (16, 18, 1, 0, 4, 0, []), (18, 19, 1, 0, 1, 0, []), (19, 22, 20, 0, 26, 1, []), (22, 23, 0, 0, 0, 0, []), (23, 26, 18, 0, 28, 0, []), (26, 28, 0, 1000000, 0, 0, []), (28, 29, 27, 0, 0, 0, []), (29, 30, 2, 0, 0, 0, []), (30, 33, 24, 0, 11, 4, []), (33, 35, 1, 0, 4, 0, []), (35, 36, 0, 0, 0, 0, []), (36, 37, 29, 0, 0, 0, []), (37, 40, 7, 1, 4, 0, []), (40, 43, 18, 0, 3, 0, []), (43, 44, 0, 0, 0, 0, []), (44, 46, 4, 0, 4, 0, []), (46, 47, 0, 0, 0, 0, []), (47, 49, 4, 0, 5, 0, []), (49, 51, 1, 0, 5, 0, []), (51, 52, 1, 0, 2, 0, []), (52, 55, 20, 0, 184, 3, []), (55, 56, 2, 0, 0, 0, []), (56, 57, 1, 0, 2, 0, []), (57, 60, 44, 0, 22, 2, [(0, 4)]), (60, 62, 4, 0, 6, 0, []), (62, 64, 1, 0, 6, 0, []), (64, 65, 0, -1, 0, 0, []), (65, 68, 20, 0, 70, 1, []), (68, 69, 0, -1, 0, 0, []), (69, 70, 34, 0, 0, 0, []), (70, 71, 2, 0, 0, 0, []), (71, 74, 24, 0, 11, 4, []), (74, 76, 1, 0, 6, 0, []), (76, 77, 0, 1, 0, 0, []), (77, 78, 29, 0, 0, 0, []), (78, 80, 1, 0, 4, 0, []), (80, 81, 2, 0, 0, 0, []), (81, 84, 24, 0, 10, 4, []), (84, 86, 1, 0, 6, 0, []), (86, 87, 26, 0, 0, 0, []), (87, 88, 8, 0, 0, 0, []), (88, 90, 4, 0, 4, 0, []), (90, 91, 0, 0, 0, 0, []), (91, 93, 4, 0, 7, 0, []), (93, 95, 1, 0, 7, 0, []), (95, 96, 1, 0, 2, 0, []), (96, 99, 20, 0, 178, 3, []), (99, 101, 1, 0, 7, 0, []), (101, 103, 0, 8, 0, 0, []), (103, 106, 20, 0, 178, 3, []), (106, 107, 2, 0, 0, 0, []), (107, 110, 24, 0, 9, 4, []), (110, 112, 1, 0, 6, 0, []), (112, 114, 0, 8, 0, 0, []), (114, 115, 8, 0, 2, 0, []), (115, 117, 1, 0, 7, 0, []), (117, 118, 8, 0, 0, 0, []), (118, 119, 26, 0, 0, 0, []), (119, 121, 4, 0, 8, 0, []), (121, 123, 1, 0, 8, 0, []), (123, 126, 19, 0, 172, 5, []), (126, 127, 2, 0, 0, 0, []), (127, 130, 24, 0, 11, 4, []), (130, 132, 1, 0, 7, 0, []), (132, 133, 28, 0, 0, 0, []), (133, 136, 19, 0, 172, 1, []), (136, 137, 2, 0, 0, 0, []), (137, 140, 24, 0, 10, 4, []), (140, 142, 1, 0, 7, 0, []), (142, 143, 2, 0, 0, 0, []), (143, 146, 24, 0, 10, 4, []), (146, 148, 1, 0, 7, 0, []), (148, 149, 26, 0, 0, 0, []), (149, 150, 1, 0, 3, 0, []), (150, 153, 19, 0, 166, 0, []), (153, 154, 2, 0, 0, 0, []), (154, 157, 24, 0, 10, 4, []), (157, 159, 1, 0, 6, 0, []), (159, 160, 26, 0, 0, 0, []), (160, 162, 1, 0, 8, 0, []), (162, 163, 8, 0, 0, 0, []), (163, 166, 18, 0, 168, 0, []), (166, 168, 1, 0, 8, 0, []), (168, 171, 39, 0, 1, 0, []), (171, 172, 27, 0, 0, 0, []), (172, 175, 7, 1, 7, 0, []), (175, 178, 18, 0, 93, 0, []), (178, 181, 7, 1, 5, 0, []), (181, 184, 18, 0, 49, 0, []), (184, 186, 1, 0, 4, 0, []), (186, 187, 34, 0, 0, 0, [])]
set_option maxRecDepth 100000 in
theorem ok21 : k21.all (chk 21 (qbt 21) (qow 21)) = true := by decide +kernel
/-- ClayBoots$Plans.nearest(I)I -/
def k22 : List En := [(0, 1, 0, -1, 0, 0, []), (1, 2, 4, 0, 2, 0, []), (2, 4, 0, 1000000, 0, 0, []), (4, 5, 4, 0, 3, 0, []), (5, 6, 0, 0, 0, 0, []), (6, 8, 4, 0, 4, 0, []), (8, 10, 1, 0, 4, 0, []), (10, 11, 1, 0, 1, 0, []), (11, 14, 20, 0, 59, 3, []), (14, 16, 1, 0, 4, 0, []), (16, 18, 0, 8, 0, 0, []), (18, 21, 20, 0, 59, 3, []), (21, 22, 2, 0, 0, 0, []), (22, 25, 24, 0, 11, 4, []), (25, 27, 1, 0, 4, 0, []), (27, 28, 28, 0, 0, 0, []), (28, 31, 19, 0, 53, 1, []), (31, 32, 2, 0, 0, 0, []), (32, 35, 24, 0, 10, 4, []), (35, 37, 1, 0, 4, 0, []), (37, 38, 26, 0, 0, 0, []), (38, 39, 1, 0, 3, 0, []), (39, 42, 20, 0, 53, 3, []), (42, 43, 2, 0, 0, 0, []), (43, 46, 24, 0, 10, 4, []), (46, 48, 1, 0, 4, 0, []), (48, 49, 26, 0, 0, 0, []), (49, 50, 4, 0, 3, 0, []), (50, 52, 1, 0, 4, 0, []), (52, 53, 4, 0, 2, 0, []), (53, 56, 7, 1, 4, 0, []), (56, 59, 18, 0, 8, 0, []), (59, 60, 1, 0, 2, 0, []), (60, 61, 34, 0, 0, 0, [])]
set_option maxRecDepth 100000 in
theorem ok22 : k22.all (chk 22 (qbt 22) (qow 22)) = true := by decide +kernel
/-- ClayBoots$Reader.take(I)V -/
def k23 : List En := [(0, 2, 0, 24, 0, 0, []), (2, 3, 4, 0, 2, 0, []), (3, 4, 1, 0, 2, 0, []), (4, 7, 19, 0, 49, 2, []), (7, 8, 2, 0, 0, 0, []), (8, 11, 24, 0, 7, 5, []), (11, 14, 0, 400, 0, 0, []), (14, 17, 20, 0, 49, 3, []), (17, 18, 2, 0, 0, 0, []), (18, 21, 24, 0, 3, 5, []), (21, 22, 2, 0, 0, 0, []), (22, 25, 24, 0, 7, 5, []), (25, 26, 1, 0, 1, 0, []), (26, 27, 1, 0, 2, 0, []), (27, 28, 8, 0, 8, 0, []), (28, 31, 0, 255, 0, 0, []), (31, 32, 8, 0, 3, 0, []), (32, 33, 27, 0, 0, 0, []), (33, 34, 2, 0, 0, 0, []), (34, 35, 15, 0, 0, 0, []), (35, 38, 24, 0, 7, 5, []), (38, 39, 0, 1, 0, 0, []), (39, 40, 8, 0, 0, 0, []), (40, 43, 25, 0, 7, 5, []), (43, 46, 7, -8, 2, 0, []), (46, 49, 18, 0, 3, 0, []), (49, 50, 37, 0, 0, 0, [])]
set_option maxRecDepth 100000 in
theorem ok23 : k23.all (chk 23 (qbt 23) (qow 23)) = true := by decide +kernel
/-- ClayBoots$Reader.read(I)I -/
def k24 : List En := [(0, 1, 2, 0, 0, 0, []), (1, 2, 0, 0, 0, 0, []), (2, 5, 25, 0, 13, 5, []), (5, 6, 2, 0, 0, 0, []), (6, 7, 0, -1, 0, 0, []), (7, 10, 25, 0, 14, 5, []), (10, 11, 2, 0, 0, 0, []), (11, 14, 44, 0, 25, 1, [(0, 5)]), (14, 15, 2, 0, 0, 0, []), (15, 16, 0, 0, 0, 0, []), (16, 19, 25, 0, 7, 5, []), (19, 20, 1, 0, 1, 0, []), (20, 23, 19, 0, 28, 2, []), (23, 24, 1, 0, 1, 0, []), (24, 25, 0, 3, 0, 0, []), (25, 28, 20, 0, 30, 5, []), (28, 29, 0, -1, 0, 0, []), (29, 30, 34, 0, 0, 0, []), (30, 31, 2, 0, 0, 0, []), (31, 34, 24, 0, 1, 5, []), (34, 37, 44, 0, 3, 1, [(0, 2)]), (37, 38, 2, 0, 0, 0, []), (38, 41, 24, 0, 2, 5, []), (41, 44, 44, 0, 15, 1, [(0, 4)]), (44, 45, 0, 0, 0, 0, []), (45, 46, 4, 0, 2, 0, []), (46, 47, 1, 0, 2, 0, []), (47, 49, 0, 16, 0, 0, []), (49, 52, 20, 0, 118, 4, []), (52, 53, 2, 0, 0, 0, []), (53, 56, 24, 0, 13, 5, []), (56, 59, 19, 0, 118, 1, []), (59, 60, 2, 0, 0, 0, []), (60, 63, 0, 30001, 0, 0, []), (63, 66, 44, 0, 34, 2, [(0, 5)]), (66, 69, 19, 0, 118, 1, []), (69, 70, 1, 0, 1, 0, []), (70, 73, 19, 0, 81, 1, []), (73, 74, 2, 0, 0, 0, []), (74, 75, 1, 0, 2, 0, []), (75, 78, 44, 0, 41, 2, [(0, 5)]), (78, 81, 18, 0, 112, 0, []), (81, 82, 1, 0, 1, 0, []), (82, 83, 0, 1, 0, 0, []), (83, 86, 20, 0, 94, 1, []), (86, 87, 2, 0, 0, 0, []), (87, 88, 1, 0, 2, 0, []), (88, 91, 44, 0, 49, 2, [(0, 5)]), (91, 94, 18, 0, 112, 0, []), (94, 95, 1, 0, 1, 0, []), (95, 96, 0, 2, 0, 0, []), (96, 99, 20, 0, 107, 1, []), (99, 100, 2, 0, 0, 0, []), (100, 101, 1, 0, 2, 0, []), (101, 104, 44, 0, 51, 2, [(0, 5)]), (104, 107, 18, 0, 112, 0, []), (107, 108, 2, 0, 0, 0, []), (108, 109, 1, 0, 2, 0, []), (109, 112, 44, 0, 52, 2, [(0, 5)]), (112, 115, 7, 1, 2, 0, []), (115, 118, 18, 0, 46, 0, []), (118, 119, 2, 0, 0, 0, []), (119, 122, 24, 0, 13, 5, []), (122, 125, 19, 0, 129, 1, []), (125, 126, 1, 0, 2, 0, []), (126, 129, 18, 0, 130, 0, []), (129, 130, 0, -1, 0, 0, []), (130, 131, 34, 0, 0, 0, [])]
set_option maxRecDepth 100000 in
theorem ok24 : k24.all (chk 24 (qbt 24) (qow 24)) = true := by decide +kernel
/-- ClayBoots$Reader.findTokens()V -/
def k25 : List En := [(0, 1, 2, 0, 0, 0, []), (1, 2, 0, 0, 0, 0, []), (2, 5, 25, 0, 8, 5, []), (5, 6, 0, 0, 0, 0, []), (6, 7, 4, 0, 1, 0, []), (7, 8, 0, 0, 0, 0, []), (8, 9, 4, 0, 2, 0, []), (9, 10, 1, 0, 2, 0, []), (10, 11, 2, 0, 0, 0, []), (11, 14, 24, 0, 7, 5, []), (14, 17, 20, 0, 153, 3, []), (17, 18, 1, 0, 2, 0, []), (18, 21, 0, 400, 0, 0, []), (21, 24, 20, 0, 153, 3, []), (24, 25, 1, 0, 2, 0, []), (25, 26, 1, 0, 1, 0, []), (26, 29, 20, 0, 147, 2, []), (29, 30, 1, 0, 2, 0, []), (30, 31, 0, 1, 0, 0, []), (31, 32, 8, 0, 0, 0, []), (32, 33, 4, 0, 1, 0, []), (33, 34, 2, 0, 0, 0, []), (34, 37, 24, 0, 3, 5, []), (37, 38, 1, 0, 2, 0, []), (38, 39, 26, 0, 0, 0, []), (39, 42, 38, 0, 27, 1, []), (42, 45, 19, 0, 65, 0, []), (45, 46, 2, 0, 0, 0, []), (46, 47, 1, 0, 2, 0, []), (47, 50, 44, 0, 29, 2, [(0, 5)]), (50, 51, 4, 0, 1, 0, []), (51, 52, 2, 0, 0, 0, []), (52, 53, 2, 0, 0, 0, []), (53, 54, 1, 0, 2, 0, []), (54, 55, 1, 0, 1, 0, []), (55, 58, 44, 0, 32, 3, [(0, 5)]), (58, 59, 1, 0, 2, 0, []), (59, 62, 44, 0, 26, 3, [(0, 5)]), (62, 65, 18, 0, 147, 0, []), (65, 66, 2, 0, 0, 0, []), (66, 69, 24, 0, 3, 5, []), (69, 70, 1, 0, 2, 0, []), (70, 71, 26, 0, 0, 0, []), (71, 74, 38, 0, 28, 1, []), (74, 77, 19, 0, 110, 0, []), (77, 78, 2, 0, 0, 0, []), (78, 79, 1, 0, 2, 0, []), (79, 82, 44, 0, 30, 2, [(0, 5)]), (82, 83, 4, 0, 1, 0, []), (83, 84, 2, 0, 0, 0, []), (84, 85, 1, 0, 1, 0, []), (85, 86, 1, 0, 2, 0, []), (86, 87, 8, 0, 1, 0, []), (87, 88, 0, 4, 0, 0, []), (88, 91, 20, 0, 100, 4, []), (91, 92, 2, 0, 0, 0, []), (92, 93, 1, 0, 2, 0, []), (93, 94, 1, 0, 1, 0, []), (94, 97, 44, 0, 31, 3, [(0, 5)]), (97, 100, 18, 0, 103, 0, []), (100, 103, 0, 30000, 0, 0, []), (103, 104, 1, 0, 2, 0, []), (104, 107, 44, 0, 26, 3, [(0, 5)]), (107, 110, 18, 0, 147, 0, []), (110, 111, 2, 0, 0, 0, []), (111, 114, 24, 0, 3, 5, []), (114, 115, 1, 0, 2, 0, []), (115, 116, 26, 0, 0, 0, []), (116, 118, 0, 32, 0, 0, []), (118, 121, 20, 0, 147, 0, []), (121, 122, 2, 0, 0, 0, []), (122, 125, 24, 0, 3, 5, []), (125, 126, 1, 0, 2, 0, []), (126, 127, 26, 0, 0, 0, []), (127, 129, 0, 10, 0, 0, []), (129, 132, 20, 0, 147, 0, []), (132, 133, 2, 0, 0, 0, []), (133, 136, 0, 20000, 0, 0, []), (136, 137, 2, 0, 0, 0, []), (137, 140, 24, 0, 3, 5, []), (140, 141, 1, 0, 2, 0, []), (141, 142, 26, 0, 0, 0, []), (142, 143, 8, 0, 0, 0, []), (143, 144, 1, 0, 2, 0, []), (144, 147, 44, 0, 26, 3, [(0, 5)]), (147, 150, 7, 1, 2, 0, []), (150, 153, 18, 0, 9, 0, []), (153, 154, 2, 0, 0, 0, []), (154, 157, 0, 30001, 0, 0, []), (157, 158, 2, 0, 0, 0, []), (158, 161, 24, 0, 7, 5, []), (161, 164, 44, 0, 26, 3, [(0, 5)]), (164, 165, 2, 0, 0, 0, []), (165, 166, 0, 0, 0, 0, []), (166, 169, 25, 0, 9, 5, []), (169, 170, 2, 0, 0, 0, []), (170, 171, 2, 0, 0, 0, []), (171, 174, 24, 0, 4, 5, []), (174, 175, 0, 0, 0, 0, []), (175, 176, 26, 0, 0, 0, []), (176, 179, 25, 0, 10, 5, []), (179, 180, 37, 0, 0, 0, [])]
set_option maxRecDepth 100000 in
theorem ok25 : k25.all (chk 25 (qbt 25) (qow 25)) = true := by decide +kernel
/-- ClayBoots$Reader.addToken(II)V -/
def k26 : List En := [(0, 1, 2, 0, 0, 0, []), (1, 4, 24, 0, 8, 5, []), (4, 7, 0, 400, 0, 0, []), (7, 10, 20, 0, 40, 4, []), (10, 11, 2, 0, 0, 0, []), (11, 14, 24, 0, 4, 5, []), (14, 15, 2, 0, 0, 0, []), (15, 18, 24, 0, 8, 5, []), (18, 19, 1, 0, 1, 0, []), (19, 20, 27, 0, 0, 0, []), (20, 21, 2, 0, 0, 0, []), (21, 24, 24, 0, 5, 5, []), (24, 25, 2, 0, 0, 0, []), (25, 28, 24, 0, 8, 5, []), (28, 29, 1, 0, 2, 0, []), (29, 30, 27, 0, 0, 0, []), (30, 31, 2, 0, 0, 0, []), (31, 32, 15, 0, 0, 0, []), (32, 35, 24, 0, 8, 5, []), (35, 36, 0, 1, 0, 0, []), (36, 37, 8, 0, 0, 0, []), (37, 40, 25, 0, 8, 5, []), (40, 41, 37, 0, 0, 0, [])]
set_option maxRecDepth 100000 in
theorem ok26 : k26.all (chk 26 (qbt 26) (qow 26)) = true := by decide +kernel
/-- ClayBoots$Reader.isLetter(I)Z -/
def k27 : List En := [(0, 1, 1, 0, 0, 0, []), (1, 3, 0, 97, 0, 0, []), (3, 6, 20, 0, 12, 2, []), (6, 7, 1, 0, 0, 0, []), (7, 9, 0, 122, 0, 0, []), (9, 12, 20, 0, 24, 5, []), (12, 13, 1, 0, 0, 0, []), (13, 15, 0, 65, 0, 0, []), (15, 18, 20, 0, 28, 2, []), (18, 19, 1, 0, 0, 0, []), (19, 21, 0, 90, 0, 0, []), (21, 24, 20, 0, 28, 4, []), (24, 25, 0, 1, 0, 0, []), (25, 28, 18, 0, 29, 0, []), (28, 29, 0, 0, 0, 0, []), (29, 30, 35, 0, 0, 0, [])]
set_option maxRecDepth 100000 in
theorem ok27 : k27.all (chk 27 (qbt 27) (qow 27)) = true := by decide +kernel
/-- ClayBoots$Reader.isDigit(I)Z -/
def k28 : List En := [(0, 1, 1, 0, 0, 0, []), (1, 3, 0, 48, 0, 0, []), (3, 6, 20, 0, 16, 2, []), (6, 7, 1, 0, 0, 0, []), (7, 9, 0, 57, 0, 0, []), (9, 12, 20, 0, 16, 4, []), (12, 13, 0, 1, 0, 0, []), (13, 16, 18, 0, 17, 0, []), (16, 17, 0, 0, 0, 0, []), (17, 18, 35, 0, 0, 0, [])]
set_option maxRecDepth 100000 in
theorem ok28 : k28.all (chk 28 (qbt 28) (qow 28)) = true := by decide +kernel
/-- ClayBoots$Reader.endOfLetters(I)I -/
def k29 : List En := [(0, 1, 1, 0, 1, 0, []), (1, 2, 4, 0, 2, 0, []), (2, 3, 1, 0, 2, 0, []), (3, 4, 2, 0, 0, 0, []), (4, 7, 24, 0, 7, 5, []), (7, 10, 20, 0, 35, 3, []), (10, 11, 1, 0, 2, 0, []), (11, 14, 0, 400, 0, 0, []), (14, 17, 20, 0, 35, 3, []), (17, 18, 2, 0, 0, 0, []), (18, 21, 24, 0, 3, 5, []), (21, 22, 1, 0, 2, 0, []), (22, 23, 26, 0, 0, 0, []), (23, 26, 38, 0, 27, 1, []), (26, 29, 19, 0, 35, 0, []), (29, 32, 7, 1, 2, 0, []), (32, 35, 18, 0, 2, 0, []), (35, 36, 1, 0, 2, 0, []), (36, 37, 34, 0, 0, 0, [])]
set_option maxRecDepth 100000 in
theorem ok29 : k29.all (chk 29 (qbt 29) (qow 29)) = true := by decide +kernel
/-- ClayBoots$Reader.endOfDigits(I)I -/
def k30 : List En := [(0, 1, 1, 0, 1, 0, []), (1, 2, 4, 0, 2, 0, []), (2, 3, 1, 0, 2, 0, []), (3, 4, 2, 0, 0, 0, []), (4, 7, 24, 0, 7, 5, []), (7, 10, 20, 0, 35, 3, []), (10, 11, 1, 0, 2, 0, []), (11, 14, 0, 400, 0, 0, []), (14, 17, 20, 0, 35, 3, []), (17, 18, 2, 0, 0, 0, []), (18, 21, 24, 0, 3, 5, []), (21, 22, 1, 0, 2, 0, []), (22, 23, 26, 0, 0, 0, []), (23, 26, 38, 0, 28, 1, []), (26, 29, 19, 0, 35, 0, []), (29, 32, 7, 1, 2, 0, []), (32, 35, 18, 0, 2, 0, []), (35, 36, 1, 0, 2, 0, []), (36, 37, 34, 0, 0, 0, [])]
set_option maxRecDepth 100000 in
theorem ok30 : k30.all (chk 30 (qbt 30) (qow 30)) = true := by decide +kernel
/-- ClayBoots$Reader.numberFrom(II)I -/
def k31 : List En := [(0, 1, 0, 0, 0, 0, []), (1, 2, 4, 0, 3, 0, []), (2, 3, 1, 0, 1, 0, []), (3, 5, 4, 0, 4, 0, []), (5, 7, 1, 0, 4, 0, []), (7, 8, 1, 0, 2, 0, []), (8, 11, 20, 0, 41, 3, []), (11, 13, 1, 0, 4, 0, []), (13, 16, 0, 400, 0, 0, []), (16, 19, 20, 0, 41, 3, []), (19, 20, 1, 0, 3, 0, []), (20, 22, 0, 10, 0, 0, []), (22, 23, 8, 0, 2, 0, []), (23, 24, 2, 0, 0, 0, []), (24, 27, 24, 0, 3, 5, []), (27, 29, 1, 0, 4, 0, []), (29, 30, 26, 0, 0, 0, []), (30, 31, 8, 0, 0, 0, []), (31, 33, 0, 48, 0, 0, []), (33, 34, 8, 0, 1, 0, []), (34, 35, 4, 0, 3, 0, []), (35, 38, 7, 1, 4, 0, []), (38, 41, 18, 0, 5, 0, []), (41, 42, 1, 0, 3, 0, []), (42, 43, 34, 0, 0, 0, [])]
set_option maxRecDepth 100000 in
theorem ok31 : k31.all (chk 31 (qbt 31) (qow 31)) = true := by decide +kernel
/-- ClayBoots$Reader.wordFrom(II)I -/
def k32 : List En := [(0, 1, 0, 0, 0, 0, []), (1, 2, 4, 0, 3, 0, []), (2, 3, 0, 0, 0, 0, []), (3, 5, 4, 0, 4, 0, []), (5, 6, 0, 0, 0, 0, []), (6, 8, 4, 0, 5, 0, []), (8, 10, 1, 0, 5, 0, []), (10, 12, 41, 0, 0, 0, []), (12, 15, 44, 0, 276, 1, [(0, 14)]), (15, 18, 20, 0, 83, 4, []), (18, 20, 1, 0, 5, 0, []), (20, 22, 41, 0, 0, 0, []), (22, 25, 44, 0, 276, 1, [(0, 14)]), (25, 28, 20, 0, 40, 0, []), (28, 30, 41, 0, 0, 0, []), (30, 32, 1, 0, 5, 0, []), (32, 35, 44, 0, 275, 2, [(0, 14)]), (35, 37, 0, 32, 0, 0, []), (37, 40, 20, 0, 77, 1, []), (40, 42, 1, 0, 5, 0, []), (42, 44, 1, 0, 4, 0, []), (44, 45, 8, 0, 1, 0, []), (45, 46, 1, 0, 2, 0, []), (46, 47, 1, 0, 1, 0, []), (47, 48, 8, 0, 1, 0, []), (48, 51, 20, 0, 68, 1, []), (51, 52, 2, 0, 0, 0, []), (52, 54, 1, 0, 4, 0, []), (54, 55, 1, 0, 1, 0, []), (55, 56, 1, 0, 2, 0, []), (56, 59, 44, 0, 33, 4, [(0, 5)]), (59, 62, 19, 0, 68, 0, []), (62, 65, 0, 10000, 0, 0, []), (65, 66, 1, 0, 3, 0, []), (66, 67, 8, 0, 0, 0, []), (67, 68, 34, 0, 0, 0, []), (68, 71, 7, 1, 3, 0, []), (71, 73, 1, 0, 5, 0, []), (73, 74, 0, 1, 0, 0, []), (74, 75, 8, 0, 0, 0, []), (75, 77, 4, 0, 4, 0, []), (77, 80, 7, 1, 5, 0, []), (80, 83, 18, 0, 8, 0, []), (83, 86, 0, 30000, 0, 0, []), (86, 87, 34, 0, 0, 0, [])]
set_option maxRecDepth 100000 in
theorem ok32 : k32.all (chk 32 (qbt 32) (qow 32)) = true := by decide +kernel
/-- ClayBoots$Reader.standsAt(III)Z -/
def k33 : List En := [(0, 1, 1, 0, 2, 0, []), (1, 3, 4, 0, 4, 0, []), (3, 5, 1, 0, 4, 0, []), (5, 6, 1, 0, 3, 0, []), (6, 9, 20, 0, 60, 3, []), (9, 11, 1, 0, 4, 0, []), (11, 14, 0, 400, 0, 0, []), (14, 17, 20, 0, 60, 3, []), (17, 18, 1, 0, 1, 0, []), (18, 20, 1, 0, 4, 0, []), (20, 21, 8, 0, 0, 0, []), (21, 22, 1, 0, 2, 0, []), (22, 23, 8, 0, 1, 0, []), (23, 25, 4, 0, 5, 0, []), (25, 27, 1, 0, 5, 0, []), (27, 29, 41, 0, 0, 0, []), (29, 32, 44, 0, 276, 1, [(0, 14)]), (32, 35, 20, 0, 52, 3, []), (35, 37, 41, 0, 0, 0, []), (37, 39, 1, 0, 5, 0, []), (39, 42, 44, 0, 275, 2, [(0, 14)]), (42, 43, 2, 0, 0, 0, []), (43, 46, 24, 0, 3, 5, []), (46, 48, 1, 0, 4, 0, []), (48, 49, 26, 0, 0, 0, []), (49, 52, 20, 0, 54, 0, []), (52, 53, 0, 0, 0, 0, []), (53, 54, 35, 0, 0, 0, []), (54, 57, 7, 1, 4, 0, []), (57, 60, 18, 0, 3, 0, []), (60, 61, 0, 1, 0, 0, []), (61, 62, 35, 0, 0, 0, [])]
set_option maxRecDepth 100000 in
theorem ok33 : k33.all (chk 33 (qbt 33) (qow 33)) = true := by decide +kernel
/-- ClayBoots$Reader.is(I)Z -/
def k34 : List En := [(0, 1, 2, 0, 0, 0, []), (1, 4, 24, 0, 13, 5, []), (4, 7, 19, 0, 19, 1, []), (7, 8, 2, 0, 0, 0, []), (8, 11, 24, 0, 10, 5, []), (11, 12, 1, 0, 1, 0, []), (12, 15, 20, 0, 19, 1, []), (15, 16, 0, 1, 0, 0, []), (16, 19, 18, 0, 20, 0, []), (19, 20, 0, 0, 0, 0, []), (20, 21, 35, 0, 0, 0, [])]
set_option maxRecDepth 100000 in
theorem ok34 : k34.all (chk 34 (qbt 34) (qow 34)) = true := by decide +kernel
/-- ClayBoots$Reader.isNumber()Z -/
def k35 : List En := [(0, 1, 2, 0, 0, 0, []), (1, 4, 24, 0, 13, 5, []), (4, 7, 19, 0, 21, 1, []), (7, 8, 2, 0, 0, 0, []), (8, 11, 24, 0, 10, 5, []), (11, 14, 0, 10000, 0, 0, []), (14, 17, 20, 0, 21, 3, []), (17, 18, 0, 1, 0, 0, []), (18, 21, 18, 0, 22, 0, []), (21, 22, 0, 0, 0, 0, []), (22, 23, 35, 0, 0, 0, [])]
set_option maxRecDepth 100000 in
theorem ok35 : k35.all (chk 35 (qbt 35) (qow 35)) = true := by decide +kernel
/-- ClayBoots$Reader.step()V -/
def k36 : List En := [(0, 1, 2, 0, 0, 0, []), (1, 4, 24, 0, 9, 5, []), (4, 5, 2, 0, 0, 0, []), (5, 8, 24, 0, 8, 5, []), (8, 9, 0, 1, 0, 0, []), (9, 10, 8, 0, 1, 0, []), (10, 13, 20, 0, 46, 3, []), (13, 14, 2, 0, 0, 0, []), (14, 17, 24, 0, 9, 5, []), (17, 20, 0, 400, 0, 0, []), (20, 23, 20, 0, 46, 3, []), (23, 24, 2, 0, 0, 0, []), (24, 25, 15, 0, 0, 0, []), (25, 28, 24, 0, 9, 5, []), (28, 29, 0, 1, 0, 0, []), (29, 30, 8, 0, 0, 0, []), (30, 33, 25, 0, 9, 5, []), (33, 34, 2, 0, 0, 0, []), (34, 35, 2, 0, 0, 0, []), (35, 38, 24, 0, 4, 5, []), (38, 39, 2, 0, 0, 0, []), (39, 42, 24, 0, 9, 5, []), (42, 43, 26, 0, 0, 0, []), (43, 46, 25, 0, 10, 5, []), (46, 47, 37, 0, 0, 0, [])]
set_option maxRecDepth 100000 in
theorem ok36 : k36.all (chk 36 (qbt 36) (qow 36)) = true := by decide +kernel
/-- ClayBoots$Reader.blame(I)V -/
def k37 : List En := [(0, 1, 2, 0, 0, 0, []), (1, 4, 24, 0, 13, 5, []), (4, 7, 19, 0, 39, 1, []), (7, 8, 2, 0, 0, 0, []), (8, 9, 1, 0, 1, 0, []), (9, 12, 25, 0, 13, 5, []), (12, 13, 2, 0, 0, 0, []), (13, 14, 2, 0, 0, 0, []), (14, 17, 24, 0, 9, 5, []), (17, 20, 0, 400, 0, 0, []), (20, 23, 20, 0, 35, 4, []), (23, 24, 2, 0, 0, 0, []), (24, 27, 24, 0, 5, 5, []), (27, 28, 2, 0, 0, 0, []), (28, 31, 24, 0, 9, 5, []), (31, 32, 26, 0, 0, 0, []), (32, 35, 18, 0, 36, 0, []), (35, 36, 0, -1, 0, 0, []), (36, 39, 25, 0, 14, 5, []), (39, 40, 37, 0, 0, 0, [])]
set_option maxRecDepth 100000 in
theorem ok37 : k37.all (chk 37 (qbt 37) (qow 37)) = true := by decide +kernel
/-- ClayBoots$Reader.need(I)V -/
def k38 : List En := [(0, 1, 2, 0, 0, 0, []), (1, 2, 1, 0, 1, 0, []), (2, 5, 44, 0, 34, 2, [(0, 5)]), (5, 8, 19, 0, 15, 0, []), (8, 9, 2, 0, 0, 0, []), (9, 12, 44, 0, 36, 1, [(0, 5)]), (12, 15, 18, 0, 20, 0, []), (15, 16, 2, 0, 0, 0, []), (16, 17, 0, 1, 0, 0, []), (17, 20, 44, 0, 37, 2, [(0, 5)]), (20, 21, 37, 0, 0, 0, [])]
set_option maxRecDepth 100000 in
theorem ok38 : k38.all (chk 38 (qbt 38) (qow 38)) = true := by decide +kernel
/-- ClayBoots$Reader.numberWithin(II)I -/
def k39 : List En := [(0, 1, 2, 0, 0, 0, []), (1, 4, 24, 0, 10, 5, []), (4, 5, 4, 0, 3, 0, []), (5, 6, 2, 0, 0, 0, []), (6, 9, 44, 0, 35, 1, [(0, 5)]), (9, 12, 19, 0, 19, 1, []), (12, 13, 2, 0, 0, 0, []), (13, 14, 0, 1, 0, 0, []), (14, 17, 44, 0, 37, 2, [(0, 5)]), (17, 18, 0, 0, 0, 0, []), (18, 19, 34, 0, 0, 0, []), (19, 20, 1, 0, 3, 0, []), (20, 21, 1, 0, 1, 0, []), (21, 24, 20, 0, 29, 2, []), (24, 25, 1, 0, 3, 0, []), (25, 26, 1, 0, 2, 0, []), (26, 29, 20, 0, 36, 5, []), (29, 30, 2, 0, 0, 0, []), (30, 31, 0, 2, 0, 0, []), (31, 34, 44, 0, 37, 2, [(0, 5)]), (34, 35, 0, 0, 0, 0, []), (35, 36, 34, 0, 0, 0, []), (36, 37, 2, 0, 0, 0, []), (37, 40, 44, 0, 36, 1, [(0, 5)]), (40, 41, 1, 0, 3, 0, []), (41, 42, 34, 0, 0, 0, [])]
set_option maxRecDepth 100000 in
theorem ok39 : k39.all (chk 39 (qbt 39) (qow 39)) = true := by decide +kernel
/-- ClayBoots$Reader.beginLine(ZI)V -/
def k40 : List En := [(0, 1, 1, 0, 1, 0, []), (1, 4, 19, 0, 12, 1, []), (4, 5, 2, 0, 0, 0, []), (5, 6, 0, 1, 0, 0, []), (6, 9, 44, 0, 37, 2, [(0, 5)]), (9, 12, 18, 0, 30, 0, []), (12, 13, 1, 0, 2, 0, []), (13, 15, 0, 16, 0, 0, []), (15, 18, 20, 0, 26, 2, []), (18, 19, 2, 0, 0, 0, []), (19, 20, 0, 3, 0, 0, []), (20, 23, 44, 0, 37, 2, [(0, 5)]), (23, 26, 18, 0, 30, 0, []), (26, 27, 2, 0, 0, 0, []), (27, 30, 44, 0, 36, 1, [(0, 5)]), (30, 31, 37, 0, 0, 0, [])]
set_option maxRecDepth 100000 in
theorem ok40 : k40.all (chk 40 (qbt 40) (qow 40)) = true := by decide +kernel
/-- ClayBoots$Reader.lawLine(I)V -/
def k41 : List En := [(0, 1, 2, 0, 0, 0, []), (1, 4, 24, 0, 10, 5, []), (4, 5, 4, 0, 2, 0, []), (5, 6, 2, 0, 0, 0, []), (6, 7, 1, 0, 2, 0, []), (7, 10, 0, 10010, 0, 0, []), (10, 13, 20, 0, 27, 0, []), (13, 14, 1, 0, 2, 0, []), (14, 17, 0, 10011, 0, 0, []), (17, 20, 20, 0, 27, 0, []), (20, 21, 1, 0, 2, 0, []), (21, 24, 0, 10012, 0, 0, []), (24, 27, 20, 0, 31, 1, []), (27, 28, 0, 1, 0, 0, []), (28, 31, 18, 0, 32, 0, []), (31, 32, 0, 0, 0, 0, []), (32, 33, 1, 0, 1, 0, []), (33, 36, 44, 0, 40, 3, [(0, 5)]), (36, 37, 1, 0, 1, 0, []), (37, 40, 19, 0, 46, 2, []), (40, 41, 1, 0, 1, 0, []), (41, 43, 0, 16, 0, 0, []), (43, 46, 20, 0, 47, 2, []), (46, 47, 37, 0, 0, 0, []), (47, 48, 2, 0, 0, 0, []), (48, 51, 24, 0, 1, 5, []), (51, 54, 24, 0, 2, 2, []), (54, 55, 1, 0, 1, 0, []), (55, 56, 1, 0, 2, 0, []), (56, 57, 27, 0, 0, 0, []), (57, 58, 2, 0, 0, 0, []), (58, 61, 24, 0, 1, 5, []), (61, 64, 24, 0, 3, 2, []), (64, 65, 1, 0, 1, 0, []), (65, 66, 2, 0, 0, 0, []), (66, 69, 24, 0, 1, 5, []), (69, 72, 24, 0, 1, 2, []), (72, 73, 27, 0, 0, 0, []), (73, 74, 2, 0, 0, 0, []), (74, 77, 44, 0, 42, 1, [(0, 5)]), (77, 78, 2, 0, 0, 0, []), (78, 81, 24, 0, 1, 5, []), (81, 84, 24, 0, 4, 2, []), (84, 85, 1, 0, 1, 0, []), (85, 86, 2, 0, 0, 0, []), (86, 89, 24, 0, 1, 5, []), (89, 92, 24, 0, 1, 2, []), (92, 93, 27, 0, 0, 0, []), (93, 94, 2, 0, 0, 0, []), (94, 97, 0, 10013, 0, 0, []), (97, 100, 44, 0, 34, 2, [(0, 5)]), (100, 103, 19, 0, 111, 0, []), (103, 104, 2, 0, 0, 0, []), (104, 107, 44, 0, 36, 1, [(0, 5)]), (107, 108, 2, 0, 0, 0, []), (108, 111, 44, 0, 45, 1, [(0, 5)]), (111, 112, 2, 0, 0, 0, []), (112, 115, 24, 0, 1, 5, []), (115, 118, 24, 0, 5, 2, []), (118, 119, 1, 0, 1, 0, []), (119, 120, 2, 0, 0, 0, []), (120, 123, 24, 0, 1, 5, []), (123, 126, 24, 0, 1, 2, []), (126, 127, 27, 0, 0, 0, []), (127, 128, 2, 0, 0, 0, []), (128, 131, 0, 20059, 0, 0, []), (131, 134, 44, 0, 38, 2, [(0, 5)]), (134, 135, 2, 0, 0, 0, []), (135, 138, 24, 0, 1, 5, []), (138, 139, 1, 0, 1, 0, []), (139, 140, 0, 1, 0, 0, []), (140, 141, 8, 0, 0, 0, []), (141, 144, 25, 0, 0, 2, []), (144, 145, 37, 0, 0, 0, [])]
set_option maxRecDepth 100000 in
theorem ok41 : k41.all (chk 41 (qbt 41) (qow 41)) = true := by decide +kernel
/-- ClayBoots$Reader.sum()V -/
def k42 : List En := [(0, 1, 0, -1, 0, 0, []), (1, 2, 4, 0, 1, 0, []), (2, 3, 0, 0, 0, 0, []), (3, 4, 4, 0, 2, 0, []), (4, 5, 1, 0, 2, 0, []), (5, 8, 0, 400, 0, 0, []), (8, 11, 20, 0, 64, 3, []), (11, 12, 2, 0, 0, 0, []), (12, 15, 44, 0, 43, 1, [(0, 5)]), (15, 16, 1, 0, 1, 0, []), (16, 17, 0, -1, 0, 0, []), (17, 20, 20, 0, 28, 0, []), (20, 21, 2, 0, 0, 0, []), (21, 24, 24, 0, 1, 5, []), (24, 25, 1, 0, 1, 0, []), (25, 28, 44, 0, 4, 2, [(0, 2)]), (28, 29, 2, 0, 0, 0, []), (29, 32, 0, 20043, 0, 0, []), (32, 35, 44, 0, 34, 2, [(0, 5)]), (35, 38, 19, 0, 49, 1, []), (38, 39, 2, 0, 0, 0, []), (39, 42, 0, 20045, 0, 0, []), (42, 45, 44, 0, 34, 2, [(0, 5)]), (45, 48, 19, 0, 49, 1, []), (48, 49, 37, 0, 0, 0, []), (49, 50, 2, 0, 0, 0, []), (50, 53, 24, 0, 10, 5, []), (53, 54, 4, 0, 1, 0, []), (54, 55, 2, 0, 0, 0, []), (55, 58, 44, 0, 36, 1, [(0, 5)]), (58, 61, 7, 1, 2, 0, []), (61, 64, 18, 0, 4, 0, []), (64, 65, 37, 0, 0, 0, [])]
set_option maxRecDepth 100000 in
theorem ok42 : k42.all (chk 42 (qbt 42) (qow 42)) = true := by decide +kernel
end
section
/-- ClayBoots$Reader.product()V -/
def k43 : List En := [(0, 1, 2, 0, 0, 0, []), (1, 4, 44, 0, 44, 1, [(0, 5)]), (4, 5, 0, 0, 0, 0, []), (5, 6, 4, 0, 1, 0, []), (6, 7, 1, 0, 1, 0, []), (7, 10, 0, 400, 0, 0, []), (10, 13, 20, 0, 93, 3, []), (13, 14, 2, 0, 0, 0, []), (14, 17, 0, 20042, 0, 0, []), (17, 20, 44, 0, 34, 2, [(0, 5)]), (20, 23, 19, 0, 44, 0, []), (23, 24, 2, 0, 0, 0, []), (24, 27, 44, 0, 36, 1, [(0, 5)]), (27, 28, 2, 0, 0, 0, []), (28, 31, 44, 0, 44, 1, [(0, 5)]), (31, 32, 2, 0, 0, 0, []), (32, 35, 24, 0, 1, 5, []), (35, 38, 0, 20042, 0, 0, []), (38, 41, 44, 0, 4, 2, [(0, 2)]), (41, 44, 18, 0, 87, 0, []), (44, 45, 2, 0, 0, 0, []), (45, 48, 0, 20047, 0, 0, []), (48, 51, 44, 0, 34, 2, [(0, 5)]), (51, 54, 19, 0, 86, 0, []), (54, 55, 2, 0, 0, 0, []), (55, 58, 44, 0, 36, 1, [(0, 5)]), (58, 59, 2, 0, 0, 0, []), (59, 62, 24, 0, 1, 5, []), (62, 63, 2, 0, 0, 0, []), (63, 64, 0, 1, 0, 0, []), (64, 67, 0, 9999, 0, 0, []), (67, 70, 44, 0, 39, 3, [(0, 5)]), (70, 73, 44, 0, 4, 2, [(0, 2)]), (73, 74, 2, 0, 0, 0, []), (74, 77, 24, 0, 1, 5, []), (77, 80, 0, 20047, 0, 0, []), (80, 83, 44, 0, 4, 2, [(0, 2)]), (83, 86, 18, 0, 87, 0, []), (86, 87, 37, 0, 0, 0, []), (87, 90, 7, 1, 1, 0, []), (90, 93, 18, 0, 6, 0, []), (93, 94, 37, 0, 0, 0, [])]
set_option maxRecDepth 100000 in
theorem ok43 : k43.all (chk 43 (qbt 43) (qow 43)) = true := by decide +kernel
/-- ClayBoots$Reader.operand()V -/
def k44 : List En := [(0, 1, 2, 0, 0, 0, []), (1, 4, 24, 0, 13, 5, []), (4, 7, 19, 0, 35, 1, []), (7, 8, 2, 0, 0, 0, []), (8, 11, 24, 0, 10, 5, []), (11, 14, 0, 10010, 0, 0, []), (14, 17, 20, 0, 35, 3, []), (17, 18, 2, 0, 0, 0, []), (18, 21, 24, 0, 1, 5, []), (21, 22, 2, 0, 0, 0, []), (22, 25, 24, 0, 10, 5, []), (25, 28, 44, 0, 4, 2, [(0, 2)]), (28, 29, 2, 0, 0, 0, []), (29, 32, 44, 0, 36, 1, [(0, 5)]), (32, 35, 18, 0, 40, 0, []), (35, 36, 2, 0, 0, 0, []), (36, 37, 0, 1, 0, 0, []), (37, 40, 44, 0, 37, 2, [(0, 5)]), (40, 41, 37, 0, 0, 0, [])]
set_option maxRecDepth 100000 in
theorem ok44 : k44.all (chk 44 (qbt 44) (qow 44)) = true := by decide +kernel
/-- ClayBoots$Reader.condition()V -/
def k45 : List En := [(0, 1, 2, 0, 0, 0, []), (1, 2, 0, 0, 0, 0, []), (2, 5, 25, 0, 11, 5, []), (5, 6, 2, 0, 0, 0, []), (6, 7, 0, 0, 0, 0, []), (7, 10, 25, 0, 12, 5, []), (10, 11, 0, 1, 0, 0, []), (11, 12, 4, 0, 1, 0, []), (12, 13, 0, 0, 0, 0, []), (13, 14, 4, 0, 2, 0, []), (14, 15, 1, 0, 2, 0, []), (15, 18, 0, 400, 0, 0, []), (18, 21, 20, 0, 154, 3, []), (21, 22, 1, 0, 1, 0, []), (22, 25, 19, 0, 154, 0, []), (25, 26, 2, 0, 0, 0, []), (26, 29, 24, 0, 13, 5, []), (29, 32, 19, 0, 154, 1, []), (32, 33, 2, 0, 0, 0, []), (33, 36, 0, 10016, 0, 0, []), (36, 39, 44, 0, 34, 2, [(0, 5)]), (39, 42, 19, 0, 52, 1, []), (42, 43, 2, 0, 0, 0, []), (43, 46, 0, 20040, 0, 0, []), (46, 49, 44, 0, 34, 2, [(0, 5)]), (49, 52, 19, 0, 83, 0, []), (52, 53, 2, 0, 0, 0, []), (53, 56, 24, 0, 12, 5, []), (56, 58, 0, 8, 0, 0, []), (58, 61, 20, 0, 66, 2, []), (61, 62, 2, 0, 0, 0, []), (62, 63, 0, 3, 0, 0, []), (63, 66, 44, 0, 37, 2, [(0, 5)]), (66, 67, 2, 0, 0, 0, []), (67, 68, 15, 0, 0, 0, []), (68, 71, 24, 0, 12, 5, []), (71, 72, 0, 1, 0, 0, []), (72, 73, 8, 0, 0, 0, []), (73, 76, 25, 0, 12, 5, []), (76, 77, 2, 0, 0, 0, []), (77, 80, 44, 0, 46, 1, [(0, 5)]), (80, 83, 18, 0, 148, 0, []), (83, 84, 2, 0, 0, 0, []), (84, 87, 44, 0, 42, 1, [(0, 5)]), (87, 88, 2, 0, 0, 0, []), (88, 91, 24, 0, 10, 5, []), (91, 92, 4, 0, 3, 0, []), (92, 93, 2, 0, 0, 0, []), (93, 96, 0, 20060, 0, 0, []), (96, 99, 44, 0, 34, 2, [(0, 5)]), (99, 102, 19, 0, 127, 1, []), (102, 103, 2, 0, 0, 0, []), (103, 106, 0, 20061, 0, 0, []), (106, 109, 44, 0, 34, 2, [(0, 5)]), (109, 112, 19, 0, 127, 1, []), (112, 113, 2, 0, 0, 0, []), (113, 116, 0, 20062, 0, 0, []), (116, 119, 44, 0, 34, 2, [(0, 5)]), (119, 122, 19, 0, 127, 1, []), (122, 123, 2, 0, 0, 0, []), (123, 124, 0, 1, 0, 0, []), (124, 127, 44, 0, 37, 2, [(0, 5)]), (127, 128, 2, 0, 0, 0, []), (128, 131, 44, 0, 36, 1, [(0, 5)]), (131, 132, 2, 0, 0, 0, []), (132, 135, 44, 0, 42, 1, [(0, 5)]), (135, 136, 2, 0, 0, 0, []), (136, 139, 24, 0, 1, 5, []), (139, 140, 1, 0, 3, 0, []), (140, 143, 44, 0, 4, 2, [(0, 2)]), (143, 144, 2, 0, 0, 0, []), (144, 147, 44, 0, 47, 1, [(0, 5)]), (147, 148, 4, 0, 1, 0, []), (148, 151, 7, 1, 2, 0, []), (151, 154, 18, 0, 14, 0, []), (154, 155, 37, 0, 0, 0, [])]
set_option maxRecDepth 100000 in
theorem ok45 : k45.all (chk 45 (qbt 45) (qow 45)) = true := by decide +kernel
/-- ClayBoots$Reader.await()V -/
def k46 : List En := [(0, 1, 2, 0, 0, 0, []), (1, 4, 24, 0, 11, 5, []), (4, 6, 0, 32, 0, 0, []), (6, 9, 20, 0, 32, 3, []), (9, 10, 2, 0, 0, 0, []), (10, 13, 24, 0, 6, 5, []), (13, 14, 2, 0, 0, 0, []), (14, 17, 24, 0, 11, 5, []), (17, 18, 2, 0, 0, 0, []), (18, 21, 24, 0, 10, 5, []), (21, 22, 27, 0, 0, 0, []), (22, 23, 2, 0, 0, 0, []), (23, 24, 15, 0, 0, 0, []), (24, 27, 24, 0, 11, 5, []), (27, 28, 0, 1, 0, 0, []), (28, 29, 8, 0, 0, 0, []), (29, 32, 25, 0, 11, 5, []), (32, 33, 2, 0, 0, 0, []), (33, 36, 44, 0, 36, 1, [(0, 5)]), (36, 37, 37, 0, 0, 0, [])]
set_option maxRecDepth 100000 in
theorem ok46 : k46.all (chk 46 (qbt 46) (qow 46)) = true := by decide +kernel
/-- ClayBoots$Reader.closeAndJoin()Z -/
def k47 : List En := [(0, 1, 0, 0, 0, 0, []), (1, 2, 4, 0, 1, 0, []), (2, 3, 1, 0, 1, 0, []), (3, 5, 0, 8, 0, 0, []), (5, 8, 20, 0, 64, 3, []), (8, 9, 2, 0, 0, 0, []), (9, 12, 0, 20041, 0, 0, []), (12, 15, 44, 0, 34, 2, [(0, 5)]), (15, 18, 19, 0, 64, 0, []), (18, 19, 2, 0, 0, 0, []), (19, 22, 0, 10014, 0, 0, []), (22, 25, 44, 0, 48, 2, [(0, 5)]), (25, 26, 2, 0, 0, 0, []), (26, 29, 24, 0, 11, 5, []), (29, 32, 19, 0, 34, 1, []), (32, 33, 0, 0, 0, 0, []), (33, 34, 35, 0, 0, 0, []), (34, 35, 2, 0, 0, 0, []), (35, 36, 15, 0, 0, 0, []), (36, 39, 24, 0, 11, 5, []), (39, 40, 0, 1, 0, 0, []), (40, 41, 8, 0, 1, 0, []), (41, 44, 25, 0, 11, 5, []), (44, 45, 2, 0, 0, 0, []), (45, 46, 15, 0, 0, 0, []), (46, 49, 24, 0, 12, 5, []), (49, 50, 0, 1, 0, 0, []), (50, 51, 8, 0, 1, 0, []), (51, 54, 25, 0, 12, 5, []), (54, 55, 2, 0, 0, 0, []), (55, 58, 44, 0, 36, 1, [(0, 5)]), (58, 61, 7, 1, 1, 0, []), (61, 64, 18, 0, 2, 0, []), (64, 65, 2, 0, 0, 0, []), (65, 68, 0, 10015, 0, 0, []), (68, 71, 44, 0, 34, 2, [(0, 5)]), (71, 74, 19, 0, 84, 1, []), (74, 75, 2, 0, 0, 0, []), (75, 78, 0, 10014, 0, 0, []), (78, 81, 44, 0, 34, 2, [(0, 5)]), (81, 84, 19, 0, 98, 0, []), (84, 85, 2, 0, 0, 0, []), (85, 86, 2, 0, 0, 0, []), (86, 89, 24, 0, 10, 5, []), (89, 92, 44, 0, 48, 2, [(0, 5)]), (92, 93, 2, 0, 0, 0, []), (93, 96, 44, 0, 46, 1, [(0, 5)]), (96, 97, 0, 1, 0, 0, []), (97, 98, 35, 0, 0, 0, []), (98, 99, 2, 0, 0, 0, []), (99, 102, 0, 10014, 0, 0, []), (102, 105, 44, 0, 48, 2, [(0, 5)]), (105, 106, 2, 0, 0, 0, []), (106, 109, 24, 0, 11, 5, []), (109, 112, 19, 0, 117, 5, []), (112, 113, 2, 0, 0, 0, []), (113, 114, 0, 1, 0, 0, []), (114, 117, 44, 0, 37, 2, [(0, 5)]), (117, 118, 0, 0, 0, 0, []), (118, 119, 35, 0, 0, 0, [])]
set_option maxRecDepth 100000 in
theorem ok47 : k47.all (chk 47 (qbt 47) (qow 47)) = true := by decide +kernel
/-- ClayBoots$Reader.settle(I)V -/
def k48 : List En := [(0, 1, 0, 0, 0, 0, []), (1, 2, 4, 0, 2, 0, []), (2, 3, 1, 0, 2, 0, []), (3, 5, 0, 32, 0, 0, []), (5, 8, 20, 0, 90, 3, []), (8, 9, 2, 0, 0, 0, []), (9, 12, 24, 0, 11, 5, []), (12, 15, 19, 0, 90, 5, []), (15, 16, 2, 0, 0, 0, []), (16, 19, 24, 0, 11, 5, []), (19, 21, 0, 32, 0, 0, []), (21, 24, 20, 0, 90, 4, []), (24, 25, 2, 0, 0, 0, []), (25, 28, 24, 0, 6, 5, []), (28, 29, 2, 0, 0, 0, []), (29, 32, 24, 0, 11, 5, []), (32, 33, 0, 1, 0, 0, []), (33, 34, 8, 0, 1, 0, []), (34, 35, 26, 0, 0, 0, []), (35, 36, 4, 0, 3, 0, []), (36, 37, 1, 0, 3, 0, []), (37, 38, 1, 0, 1, 0, []), (38, 41, 20, 0, 48, 2, []), (41, 42, 1, 0, 3, 0, []), (42, 45, 0, 10016, 0, 0, []), (45, 48, 20, 0, 49, 5, []), (48, 49, 37, 0, 0, 0, []), (49, 50, 1, 0, 3, 0, []), (50, 53, 0, 10016, 0, 0, []), (53, 56, 20, 0, 66, 1, []), (56, 57, 2, 0, 0, 0, []), (57, 58, 15, 0, 0, 0, []), (58, 61, 24, 0, 12, 5, []), (61, 62, 0, 1, 0, 0, []), (62, 63, 8, 0, 1, 0, []), (63, 66, 25, 0, 12, 5, []), (66, 67, 2, 0, 0, 0, []), (67, 70, 24, 0, 1, 5, []), (70, 71, 1, 0, 3, 0, []), (71, 74, 44, 0, 4, 2, [(0, 2)]), (74, 75, 2, 0, 0, 0, []), (75, 76, 15, 0, 0, 0, []), (76, 79, 24, 0, 11, 5, []), (79, 80, 0, 1, 0, 0, []), (80, 81, 8, 0, 1, 0, []), (81, 84, 25, 0, 11, 5, []), (84, 87, 7, 1, 2, 0, []), (87, 90, 18, 0, 2, 0, []), (90, 91, 37, 0, 0, 0, [])]
set_option maxRecDepth 100000 in
theorem ok48 : k48.all (chk 48 (qbt 48) (qow 48)) = true := by decide +kernel
/-- ClayBoots$Reader.callLine(I)V -/
def k49 : List En := [(0, 1, 2, 0, 0, 0, []), (1, 2, 2, 0, 0, 0, []), (2, 5, 0, 10017, 0, 0, []), (5, 8, 44, 0, 34, 2, [(0, 5)]), (8, 9, 1, 0, 1, 0, []), (9, 12, 44, 0, 40, 3, [(0, 5)]), (12, 13, 2, 0, 0, 0, []), (13, 14, 0, 0, 0, 0, []), (14, 17, 0, 999, 0, 0, []), (17, 20, 44, 0, 39, 3, [(0, 5)]), (20, 21, 4, 0, 2, 0, []), (21, 22, 2, 0, 0, 0, []), (22, 25, 0, 10018, 0, 0, []), (25, 28, 44, 0, 38, 2, [(0, 5)]), (28, 29, 2, 0, 0, 0, []), (29, 30, 0, 0, 0, 0, []), (30, 31, 2, 0, 0, 0, []), (31, 34, 24, 0, 0, 5, []), (34, 37, 24, 0, 7, 6, []), (37, 38, 0, 1, 0, 0, []), (38, 39, 8, 0, 1, 0, []), (39, 42, 44, 0, 39, 3, [(0, 5)]), (42, 43, 4, 0, 3, 0, []), (43, 44, 2, 0, 0, 0, []), (44, 47, 0, 10019, 0, 0, []), (47, 50, 44, 0, 38, 2, [(0, 5)]), (50, 51, 2, 0, 0, 0, []), (51, 54, 44, 0, 50, 1, [(0, 5)]), (54, 56, 4, 0, 4, 0, []), (56, 57, 2, 0, 0, 0, []), (57, 60, 0, 10020, 0, 0, []), (60, 63, 44, 0, 38, 2, [(0, 5)]), (63, 64, 2, 0, 0, 0, []), (64, 65, 0, 0, 0, 0, []), (65, 66, 2, 0, 0, 0, []), (66, 69, 24, 0, 0, 5, []), (69, 72, 24, 0, 6, 6, []), (72, 73, 0, 1, 0, 0, []), (73, 74, 8, 0, 1, 0, []), (74, 77, 44, 0, 39, 3, [(0, 5)]), (77, 79, 4, 0, 5, 0, []), (79, 80, 2, 0, 0, 0, []), (80, 83, 0, 20059, 0, 0, []), (83, 86, 44, 0, 38, 2, [(0, 5)]), (86, 87, 1, 0, 1, 0, []), (87, 90, 19, 0, 148, 2, []), (90, 91, 1, 0, 1, 0, []), (91, 93, 0, 16, 0, 0, []), (93, 96, 20, 0, 148, 3, []), (96, 97, 2, 0, 0, 0, []), (97, 100, 24, 0, 2, 5, []), (100, 103, 24, 0, 3, 4, []), (103, 104, 1, 0, 1, 0, []), (104, 105, 1, 0, 2, 0, []), (105, 106, 27, 0, 0, 0, []), (106, 107, 2, 0, 0, 0, []), (107, 110, 24, 0, 2, 5, []), (110, 113, 24, 0, 4, 4, []), (113, 114, 1, 0, 1, 0, []), (114, 115, 1, 0, 3, 0, []), (115, 116, 27, 0, 0, 0, []), (116, 117, 2, 0, 0, 0, []), (117, 120, 24, 0, 2, 5, []), (120, 123, 24, 0, 5, 4, []), (123, 124, 1, 0, 1, 0, []), (124, 126, 1, 0, 4, 0, []), (126, 127, 27, 0, 0, 0, []), (127, 128, 2, 0, 0, 0, []), (128, 131, 24, 0, 2, 5, []), (131, 134, 24, 0, 6, 4, []), (134, 135, 1, 0, 1, 0, []), (135, 137, 1, 0, 5, 0, []), (137, 138, 27, 0, 0, 0, []), (138, 139, 2, 0, 0, 0, []), (139, 142, 24, 0, 2, 5, []), (142, 143, 1, 0, 1, 0, []), (143, 144, 0, 1, 0, 0, []), (144, 145, 8, 0, 0, 0, []), (145, 148, 25, 0, 0, 4, []), (148, 149, 37, 0, 0, 0, [])]
set_option maxRecDepth 100000 in
theorem ok49 : k49.all (chk 49 (qbt 49) (qow 49)) = true := by decide +kernel
/-- ClayBoots$Reader.fieldRow()I -/
def k50 : List En := [(0, 2, 0, 10, 0, 0, []), (2, 3, 2, 0, 0, 0, []), (3, 4, 0, 0, 0, 0, []), (4, 5, 2, 0, 0, 0, []), (5, 8, 24, 0, 0, 5, []), (8, 11, 24, 0, 5, 6, []), (11, 12, 0, 1, 0, 0, []), (12, 13, 8, 0, 1, 0, []), (13, 16, 44, 0, 39, 3, [(0, 5)]), (16, 17, 8, 0, 0, 0, []), (17, 18, 4, 0, 1, 0, []), (18, 19, 0, 1, 0, 0, []), (19, 20, 4, 0, 2, 0, []), (20, 21, 1, 0, 2, 0, []), (21, 23, 0, 6, 0, 0, []), (23, 26, 20, 0, 87, 4, []), (26, 27, 2, 0, 0, 0, []), (27, 30, 44, 0, 35, 1, [(0, 5)]), (30, 33, 19, 0, 87, 0, []), (33, 34, 1, 0, 2, 0, []), (34, 36, 0, 6, 0, 0, []), (36, 39, 20, 0, 61, 1, []), (39, 40, 2, 0, 0, 0, []), (40, 43, 24, 0, 10, 5, []), (43, 44, 2, 0, 0, 0, []), (44, 47, 24, 0, 0, 5, []), (47, 50, 24, 0, 5, 6, []), (50, 53, 20, 0, 61, 3, []), (53, 54, 2, 0, 0, 0, []), (54, 55, 0, 3, 0, 0, []), (55, 58, 44, 0, 37, 2, [(0, 5)]), (58, 61, 18, 0, 81, 0, []), (61, 62, 1, 0, 1, 0, []), (62, 64, 0, 10, 0, 0, []), (64, 65, 8, 0, 2, 0, []), (65, 66, 2, 0, 0, 0, []), (66, 67, 0, 0, 0, 0, []), (67, 68, 2, 0, 0, 0, []), (68, 71, 24, 0, 0, 5, []), (71, 74, 24, 0, 5, 6, []), (74, 75, 0, 1, 0, 0, []), (75, 76, 8, 0, 1, 0, []), (76, 79, 44, 0, 39, 3, [(0, 5)]), (79, 80, 8, 0, 0, 0, []), (80, 81, 4, 0, 1, 0, []), (81, 84, 7, 1, 2, 0, []), (84, 87, 18, 0, 20, 0, []), (87, 88, 1, 0, 1, 0, []), (88, 89, 34, 0, 0, 0, [])]
set_option maxRecDepth 100000 in
theorem ok50 : k50.all (chk 50 (qbt 50) (qow 50)) = true := by decide +kernel
/-- ClayBoots$Reader.skyLine(I)V -/
def k51 : List En := [(0, 1, 2, 0, 0, 0, []), (1, 2, 2, 0, 0, 0, []), (2, 5, 0, 10017, 0, 0, []), (5, 8, 44, 0, 34, 2, [(0, 5)]), (8, 9, 1, 0, 1, 0, []), (9, 12, 44, 0, 40, 3, [(0, 5)]), (12, 13, 2, 0, 0, 0, []), (13, 14, 0, 0, 0, 0, []), (14, 17, 0, 999, 0, 0, []), (17, 20, 44, 0, 39, 3, [(0, 5)]), (20, 21, 4, 0, 2, 0, []), (21, 23, 0, 11, 0, 0, []), (23, 24, 4, 0, 3, 0, []), (24, 25, 2, 0, 0, 0, []), (25, 28, 0, 10005, 0, 0, []), (28, 31, 44, 0, 34, 2, [(0, 5)]), (31, 34, 19, 0, 49, 0, []), (34, 35, 2, 0, 0, 0, []), (35, 38, 44, 0, 36, 1, [(0, 5)]), (38, 39, 2, 0, 0, 0, []), (39, 40, 0, 0, 0, 0, []), (40, 42, 0, 9, 0, 0, []), (42, 45, 44, 0, 39, 3, [(0, 5)]), (45, 46, 4, 0, 3, 0, []), (46, 49, 18, 0, 76, 0, []), (49, 50, 2, 0, 0, 0, []), (50, 53, 0, 10006, 0, 0, []), (53, 56, 44, 0, 34, 2, [(0, 5)]), (56, 59, 19, 0, 69, 0, []), (59, 60, 2, 0, 0, 0, []), (60, 63, 44, 0, 36, 1, [(0, 5)]), (63, 65, 0, 10, 0, 0, []), (65, 66, 4, 0, 3, 0, []), (66, 69, 18, 0, 76, 0, []), (69, 70, 2, 0, 0, 0, []), (70, 73, 0, 10021, 0, 0, []), (73, 76, 44, 0, 38, 2, [(0, 5)]), (76, 77, 2, 0, 0, 0, []), (77, 80, 0, 20059, 0, 0, []), (80, 83, 44, 0, 38, 2, [(0, 5)]), (83, 84, 1, 0, 1, 0, []), (84, 87, 19, 0, 123, 2, []), (87, 88, 1, 0, 1, 0, []), (88, 90, 0, 16, 0, 0, []), (90, 93, 20, 0, 123, 3, []), (93, 94, 2, 0, 0, 0, []), (94, 97, 24, 0, 2, 5, []), (97, 100, 24, 0, 7, 4, []), (100, 101, 1, 0, 1, 0, []), (101, 102, 1, 0, 2, 0, []), (102, 103, 27, 0, 0, 0, []), (103, 104, 2, 0, 0, 0, []), (104, 107, 24, 0, 2, 5, []), (107, 110, 24, 0, 8, 4, []), (110, 111, 1, 0, 1, 0, []), (111, 112, 1, 0, 3, 0, []), (112, 113, 27, 0, 0, 0, []), (113, 114, 2, 0, 0, 0, []), (114, 117, 24, 0, 2, 5, []), (117, 118, 1, 0, 1, 0, []), (118, 119, 0, 1, 0, 0, []), (119, 120, 8, 0, 0, 0, []), (120, 123, 25, 0, 1, 4, []), (123, 124, 37, 0, 0, 0, [])]
set_option maxRecDepth 100000 in
theorem ok51 : k51.all (chk 51 (qbt 51) (qow 51)) = true := by decide +kernel
/-- ClayBoots$Reader.wayLine(I)V -/
def k52 : List En := [(0, 1, 2, 0, 0, 0, []), (1, 2, 2, 0, 0, 0, []), (2, 5, 0, 10022, 0, 0, []), (5, 8, 44, 0, 34, 2, [(0, 5)]), (8, 9, 1, 0, 1, 0, []), (9, 12, 44, 0, 40, 3, [(0, 5)]), (12, 13, 2, 0, 0, 0, []), (13, 14, 0, 0, 0, 0, []), (14, 15, 2, 0, 0, 0, []), (15, 18, 24, 0, 0, 5, []), (18, 21, 24, 0, 6, 6, []), (21, 22, 0, 1, 0, 0, []), (22, 23, 8, 0, 1, 0, []), (23, 26, 44, 0, 39, 3, [(0, 5)]), (26, 27, 4, 0, 2, 0, []), (27, 28, 2, 0, 0, 0, []), (28, 31, 0, 10022, 0, 0, []), (31, 34, 44, 0, 38, 2, [(0, 5)]), (34, 35, 2, 0, 0, 0, []), (35, 36, 1, 0, 2, 0, []), (36, 39, 44, 0, 34, 2, [(0, 5)]), (39, 42, 19, 0, 47, 0, []), (42, 43, 2, 0, 0, 0, []), (43, 44, 0, 2, 0, 0, []), (44, 47, 44, 0, 37, 2, [(0, 5)]), (47, 48, 2, 0, 0, 0, []), (48, 49, 0, 0, 0, 0, []), (49, 50, 2, 0, 0, 0, []), (50, 53, 24, 0, 0, 5, []), (53, 56, 24, 0, 6, 6, []), (56, 57, 0, 1, 0, 0, []), (57, 58, 8, 0, 1, 0, []), (58, 61, 44, 0, 39, 3, [(0, 5)]), (61, 62, 4, 0, 3, 0, []), (62, 63, 2, 0, 0, 0, []), (63, 64, 0, 1, 0, 0, []), (64, 66, 0, 99, 0, 0, []), (66, 69, 44, 0, 39, 3, [(0, 5)]), (69, 71, 4, 0, 4, 0, []), (71, 72, 2, 0, 0, 0, []), (72, 75, 0, 20059, 0, 0, []), (75, 78, 44, 0, 38, 2, [(0, 5)]), (78, 79, 2, 0, 0, 0, []), (79, 82, 24, 0, 13, 5, []), (82, 85, 19, 0, 106, 1, []), (85, 86, 2, 0, 0, 0, []), (86, 89, 24, 0, 2, 5, []), (89, 90, 1, 0, 2, 0, []), (90, 91, 1, 0, 3, 0, []), (91, 93, 1, 0, 4, 0, []), (93, 96, 44, 0, 17, 4, [(0, 4)]), (96, 97, 2, 0, 0, 0, []), (97, 100, 24, 0, 2, 5, []), (100, 101, 1, 0, 1, 0, []), (101, 102, 0, 1, 0, 0, []), (102, 103, 8, 0, 0, 0, []), (103, 106, 25, 0, 2, 4, []), (106, 107, 37, 0, 0, 0, [])]
set_option maxRecDepth 100000 in
theorem ok52 : k52.all (chk 52 (qbt 52) (qow 52)) = true := by decide +kernel
/-- ClayBoots$Shire.become(LClayBoots$Shire;)V -/
def k53 : List En := [(0, 1, 2, 0, 0, 0, []), (1, 2, 2, 0, 1, 0, []), (2, 5, 44, 0, 54, 2, [(0, 6)]), (5, 6, 2, 0, 0, 0, []), (6, 9, 24, 0, 17, 6, []), (9, 10, 2, 0, 1, 0, []), (10, 13, 24, 0, 17, 6, []), (13, 16, 44, 0, 1, 2, [(0, 0)]), (16, 17, 37, 0, 0, 0, [])]
set_option maxRecDepth 100000 in
theorem ok53 : k53.all (chk 53 (qbt 53) (qow 53)) = true := by decide +kernel
/-- ClayBoots$Shire.becomeLand(LClayBoots$Shire;)V -/
def k54 : List En := [(0, 1, 2, 0, 0, 0, []), (1, 2, 2, 0, 1, 0, []), (2, 5, 24, 0, 0, 6, []), (5, 8, 25, 0, 0, 6, []), (8, 9, 2, 0, 0, 0, []), (9, 10, 2, 0, 1, 0, []), (10, 13, 24, 0, 1, 6, []), (13, 16, 25, 0, 1, 6, []), (16, 17, 2, 0, 0, 0, []), (17, 18, 2, 0, 1, 0, []), (18, 21, 24, 0, 2, 6, []), (21, 24, 25, 0, 2, 6, []), (24, 25, 2, 0, 0, 0, []), (25, 26, 2, 0, 1, 0, []), (26, 29, 24, 0, 3, 6, []), (29, 32, 25, 0, 3, 6, []), (32, 33, 2, 0, 0, 0, []), (33, 34, 2, 0, 1, 0, []), (34, 37, 24, 0, 4, 6, []), (37, 40, 25, 0, 4, 6, []), (40, 41, 2, 0, 0, 0, []), (41, 42, 2, 0, 1, 0, []), (42, 45, 24, 0, 5, 6, []), (45, 48, 25, 0, 5, 6, []), (48, 49, 2, 0, 0, 0, []), (49, 50, 2, 0, 1, 0, []), (50, 53, 24, 0, 6, 6, []), (53, 56, 25, 0, 6, 6, []), (56, 57, 2, 0, 0, 0, []), (57, 58, 2, 0, 1, 0, []), (58, 61, 24, 0, 7, 6, []), (61, 64, 25, 0, 7, 6, []), (64, 65, 2, 0, 1, 0, []), (65, 68, 24, 0, 8, 6, []), (68, 69, 0, 0, 0, 0, []), (69, 70, 2, 0, 0, 0, []), (70, 73, 24, 0, 8, 6, []), (73, 74, 0, 0, 0, 0, []), (74, 76, 0, 10, 0, 0, []), (76, 79, 40, 0, 0, 0, []), (79, 80, 2, 0, 1, 0, []), (80, 83, 24, 0, 9, 6, []), (83, 84, 0, 0, 0, 0, []), (84, 85, 2, 0, 0, 0, []), (85, 88, 24, 0, 9, 6, []), (88, 89, 0, 0, 0, 0, []), (89, 91, 0, 10, 0, 0, []), (91, 94, 40, 0, 0, 0, []), (94, 95, 2, 0, 1, 0, []), (95, 98, 24, 0, 10, 6, []), (98, 99, 0, 0, 0, 0, []), (99, 100, 2, 0, 0, 0, []), (100, 103, 24, 0, 10, 6, []), (103, 104, 0, 0, 0, 0, []), (104, 106, 0, 8, 0, 0, []), (106, 109, 40, 0, 0, 0, []), (109, 110, 2, 0, 1, 0, []), (110, 113, 24, 0, 11, 6, []), (113, 114, 0, 0, 0, 0, []), (114, 115, 2, 0, 0, 0, []), (115, 118, 24, 0, 11, 6, []), (118, 119, 0, 0, 0, 0, []), (119, 121, 0, 80, 0, 0, []), (121, 124, 40, 0, 0, 0, []), (124, 125, 2, 0, 1, 0, []), (125, 128, 24, 0, 12, 6, []), (128, 129, 0, 0, 0, 0, []), (129, 130, 2, 0, 0, 0, []), (130, 133, 24, 0, 12, 6, []), (133, 134, 0, 0, 0, 0, []), (134, 136, 0, 12, 0, 0, []), (136, 139, 40, 0, 0, 0, []), (139, 140, 2, 0, 1, 0, []), (140, 143, 24, 0, 13, 6, []), (143, 144, 0, 0, 0, 0, []), (144, 145, 2, 0, 0, 0, []), (145, 148, 24, 0, 13, 6, []), (148, 149, 0, 0, 0, 0, []), (149, 151, 0, 12, 0, 0, []), (151, 154, 40, 0, 0, 0, []), (154, 155, 2, 0, 1, 0, []), (155, 158, 24, 0, 14, 6, []), (158, 159, 0, 0, 0, 0, []), (159, 160, 2, 0, 0, 0, []), (160, 163, 24, 0, 14, 6, []), (163, 164, 0, 0, 0, 0, []), (164, 166, 0, 12, 0, 0, []), (166, 169, 40, 0, 0, 0, []), (169, 170, 2, 0, 1, 0, []), (170, 173, 24, 0, 15, 6, []), (173, 174, 0, 0, 0, 0, []), (174, 175, 2, 0, 0, 0, []), (175, 178, 24, 0, 15, 6, []), (178, 179, 0, 0, 0, 0, []), (179, 181, 0, 12, 0, 0, []), (181, 184, 40, 0, 0, 0, []), (184, 185, 2, 0, 1, 0, []), (185, 188, 24, 0, 16, 6, []), (188, 189, 0, 0, 0, 0, []), (189, 190, 2, 0, 0, 0, []), (190, 193, 24, 0, 16, 6, []), (193, 194, 0, 0, 0, 0, []), (194, 196, 0, 120, 0, 0, []), (196, 199, 40, 0, 0, 0, []), (199, 200, 37, 0, 0, 0, [])]
set_option maxRecDepth 100000 in
theorem ok54 : k54.all (chk 54 (qbt 54) (qow 54)) = true := by decide +kernel
/-- ClayBoots$Shire.hasField(I)Z -/
def k55 : List En := [(0, 1, 1, 0, 1, 0, []), (1, 4, 19, 0, 22, 2, []), (4, 5, 1, 0, 1, 0, []), (5, 6, 2, 0, 0, 0, []), (6, 9, 24, 0, 5, 6, []), (9, 12, 20, 0, 22, 3, []), (12, 13, 1, 0, 1, 0, []), (13, 15, 0, 10, 0, 0, []), (15, 18, 20, 0, 22, 3, []), (18, 19, 0, 1, 0, 0, []), (19, 22, 18, 0, 23, 0, []), (22, 23, 0, 0, 0, 0, []), (23, 24, 35, 0, 0, 0, [])]
set_option maxRecDepth 100000 in
theorem ok55 : k55.all (chk 55 (qbt 55) (qow 55)) = true := by decide +kernel
/-- ClayBoots$Shire.hasDoor(I)Z -/
def k56 : List En := [(0, 1, 1, 0, 1, 0, []), (1, 4, 19, 0, 22, 2, []), (4, 5, 1, 0, 1, 0, []), (5, 6, 2, 0, 0, 0, []), (6, 9, 24, 0, 6, 6, []), (9, 12, 20, 0, 22, 3, []), (12, 13, 1, 0, 1, 0, []), (13, 15, 0, 8, 0, 0, []), (15, 18, 20, 0, 22, 3, []), (18, 19, 0, 1, 0, 0, []), (19, 22, 18, 0, 23, 0, []), (22, 23, 0, 0, 0, 0, []), (23, 24, 35, 0, 0, 0, [])]
set_option maxRecDepth 100000 in
theorem ok56 : k56.all (chk 56 (qbt 56) (qow 56)) = true := by decide +kernel
/-- ClayBoots$Shire.hasPerson(I)Z -/
def k57 : List En := [(0, 1, 1, 0, 1, 0, []), (1, 4, 19, 0, 22, 2, []), (4, 5, 1, 0, 1, 0, []), (5, 6, 2, 0, 0, 0, []), (6, 9, 24, 0, 7, 6, []), (9, 12, 20, 0, 22, 3, []), (12, 13, 1, 0, 1, 0, []), (13, 15, 0, 12, 0, 0, []), (15, 18, 20, 0, 22, 3, []), (18, 19, 0, 1, 0, 0, []), (19, 22, 18, 0, 23, 0, []), (22, 23, 0, 0, 0, 0, []), (23, 24, 35, 0, 0, 0, [])]
set_option maxRecDepth 100000 in
theorem ok57 : k57.all (chk 57 (qbt 57) (qow 57)) = true := by decide +kernel
/-- ClayBoots$Shire.hasAll(III)Z -/
def k58 : List En := [(0, 1, 2, 0, 0, 0, []), (1, 2, 1, 0, 1, 0, []), (2, 5, 44, 0, 57, 2, [(0, 6)]), (5, 8, 19, 0, 28, 0, []), (8, 9, 2, 0, 0, 0, []), (9, 10, 1, 0, 2, 0, []), (10, 13, 44, 0, 55, 2, [(0, 6)]), (13, 16, 19, 0, 28, 0, []), (16, 17, 2, 0, 0, 0, []), (17, 18, 1, 0, 3, 0, []), (18, 21, 44, 0, 56, 2, [(0, 6)]), (21, 24, 19, 0, 28, 0, []), (24, 25, 0, 1, 0, 0, []), (25, 28, 18, 0, 29, 0, []), (28, 29, 0, 0, 0, 0, []), (29, 30, 35, 0, 0, 0, [])]
set_option maxRecDepth 100000 in
theorem ok58 : k58.all (chk 58 (qbt 58) (qow 58)) = true := by decide +kernel
/-- ClayBoots$Shire.hasRow(I)Z -/
def k59 : List En := [(0, 1, 1, 0, 1, 0, []), (1, 4, 38, 0, 149, 1, []), (4, 6, 0, 10, 0, 0, []), (6, 7, 9, 0, 0, 0, []), (7, 8, 4, 0, 2, 0, []), (8, 9, 1, 0, 2, 0, []), (9, 12, 19, 0, 14, 1, []), (12, 13, 0, 0, 0, 0, []), (13, 14, 35, 0, 0, 0, []), (14, 15, 1, 0, 2, 0, []), (15, 18, 19, 0, 41, 5, []), (18, 19, 2, 0, 0, 0, []), (19, 20, 1, 0, 1, 0, []), (20, 21, 1, 0, 2, 0, []), (21, 22, 9, 0, 0, 0, []), (22, 24, 0, 10, 0, 0, []), (24, 25, 10, 0, 0, 0, []), (25, 28, 44, 0, 55, 2, [(0, 6)]), (28, 31, 19, 0, 33, 1, []), (31, 32, 0, 0, 0, 0, []), (32, 33, 35, 0, 0, 0, []), (33, 34, 1, 0, 2, 0, []), (34, 36, 0, 10, 0, 0, []), (36, 37, 9, 0, 0, 0, []), (37, 38, 4, 0, 2, 0, []), (38, 41, 18, 0, 14, 0, []), (41, 42, 0, 1, 0, 0, []), (42, 43, 35, 0, 0, 0, [])]
set_option maxRecDepth 100000 in
theorem ok59 : k59.all (chk 59 (qbt 59) (qow 59)) = true := by decide +kernel
/-- ClayBoots$Shire.addField(II)I -/
def k60 : List En := [(0, 1, 2, 0, 0, 0, []), (1, 4, 24, 0, 5, 6, []), (4, 6, 0, 10, 0, 0, []), (6, 9, 20, 0, 11, 2, []), (9, 10, 0, -1, 0, 0, []), (10, 11, 34, 0, 0, 0, []), (11, 12, 2, 0, 0, 0, []), (12, 15, 24, 0, 8, 6, []), (15, 16, 2, 0, 0, 0, []), (16, 19, 24, 0, 5, 6, []), (19, 20, 1, 0, 1, 0, []), (20, 21, 27, 0, 0, 0, []), (21, 22, 2, 0, 0, 0, []), (22, 25, 24, 0, 9, 6, []), (25, 26, 2, 0, 0, 0, []), (26, 29, 24, 0, 5, 6, []), (29, 30, 1, 0, 2, 0, []), (30, 31, 27, 0, 0, 0, []), (31, 32, 2, 0, 0, 0, []), (32, 33, 15, 0, 0, 0, []), (33, 36, 24, 0, 5, 6, []), (36, 37, 0, 1, 0, 0, []), (37, 38, 8, 0, 0, 0, []), (38, 41, 25, 0, 5, 6, []), (41, 42, 2, 0, 0, 0, []), (42, 45, 24, 0, 5, 6, []), (45, 46, 0, 1, 0, 0, []), (46, 47, 8, 0, 1, 0, []), (47, 48, 34, 0, 0, 0, [])]
set_option maxRecDepth 100000 in
theorem ok60 : k60.all (chk 60 (qbt 60) (qow 60)) = true := by decide +kernel
/-- ClayBoots$Shire.addDoor(Z)I -/
def k61 : List En := [(0, 1, 2, 0, 0, 0, []), (1, 4, 24, 0, 6, 6, []), (4, 6, 0, 8, 0, 0, []), (6, 9, 20, 0, 11, 2, []), (9, 10, 0, -1, 0, 0, []), (10, 11, 34, 0, 0, 0, []), (11, 12, 2, 0, 0, 0, []), (12, 15, 24, 0, 10, 6, []), (15, 16, 2, 0, 0, 0, []), (16, 19, 24, 0, 6, 6, []), (19, 20, 1, 0, 1, 0, []), (20, 23, 19, 0, 27, 0, []), (23, 24, 0, 1, 0, 0, []), (24, 27, 18, 0, 28, 0, []), (27, 28, 0, 0, 0, 0, []), (28, 29, 27, 0, 0, 0, []), (29, 30, 2, 0, 0, 0, []), (30, 31, 15, 0, 0, 0, []), (31, 34, 24, 0, 6, 6, []), (34, 35, 0, 1, 0, 0, []), (35, 36, 8, 0, 0, 0, []), (36, 39, 25, 0, 6, 6, []), (39, 40, 2, 0, 0, 0, []), (40, 43, 24, 0, 6, 6, []), (43, 44, 0, 1, 0, 0, []), (44, 45, 8, 0, 1, 0, []), (45, 46, 34, 0, 0, 0, [])]
set_option maxRecDepth 100000 in
theorem ok61 : k61.all (chk 61 (qbt 61) (qow 61)) = true := by decide +kernel
/-- ClayBoots$Shire.addPerson(III)I -/
def k62 : List En := [(0, 1, 2, 0, 0, 0, []), (1, 4, 24, 0, 7, 6, []), (4, 6, 0, 12, 0, 0, []), (6, 9, 20, 0, 11, 2, []), (9, 10, 0, -1, 0, 0, []), (10, 11, 34, 0, 0, 0, []), (11, 12, 2, 0, 0, 0, []), (12, 15, 24, 0, 12, 6, []), (15, 16, 2, 0, 0, 0, []), (16, 19, 24, 0, 7, 6, []), (19, 20, 1, 0, 1, 0, []), (20, 21, 27, 0, 0, 0, []), (21, 22, 2, 0, 0, 0, []), (22, 25, 24, 0, 13, 6, []), (25, 26, 2, 0, 0, 0, []), (26, 29, 24, 0, 7, 6, []), (29, 30, 1, 0, 2, 0, []), (30, 31, 27, 0, 0, 0, []), (31, 32, 2, 0, 0, 0, []), (32, 35, 24, 0, 14, 6, []), (35, 36, 2, 0, 0, 0, []), (36, 39, 24, 0, 7, 6, []), (39, 40, 1, 0, 3, 0, []), (40, 41, 27, 0, 0, 0, []), (41, 42, 2, 0, 0, 0, []), (42, 43, 15, 0, 0, 0, []), (43, 46, 24, 0, 7, 6, []), (46, 47, 0, 1, 0, 0, []), (47, 48, 8, 0, 0, 0, []), (48, 51, 25, 0, 7, 6, []), (51, 52, 2, 0, 0, 0, []), (52, 55, 24, 0, 7, 6, []), (55, 56, 0, 1, 0, 0, []), (56, 57, 8, 0, 1, 0, []), (57, 58, 34, 0, 0, 0, [])]
set_option maxRecDepth 100000 in
theorem ok62 : k62.all (chk 62 (qbt 62) (qow 62)) = true := by decide +kernel
/-- ClayBoots$Shire.loadOf(I)I -/
def k63 : List En := [(0, 1, 0, 0, 0, 0, []), (1, 2, 4, 0, 2, 0, []), (2, 3, 2, 0, 0, 0, []), (3, 4, 1, 0, 1, 0, []), (4, 7, 44, 0, 57, 2, [(0, 6)]), (7, 10, 19, 0, 38, 0, []), (10, 11, 0, 0, 0, 0, []), (11, 12, 4, 0, 3, 0, []), (12, 13, 1, 0, 3, 0, []), (13, 15, 0, 10, 0, 0, []), (15, 18, 20, 0, 38, 3, []), (18, 19, 1, 0, 2, 0, []), (19, 20, 2, 0, 0, 0, []), (20, 23, 24, 0, 16, 6, []), (23, 24, 1, 0, 1, 0, []), (24, 26, 0, 10, 0, 0, []), (26, 27, 8, 0, 2, 0, []), (27, 28, 1, 0, 3, 0, []), (28, 29, 8, 0, 0, 0, []), (29, 30, 26, 0, 0, 0, []), (30, 31, 8, 0, 0, 0, []), (31, 32, 4, 0, 2, 0, []), (32, 35, 7, 1, 3, 0, []), (35, 38, 18, 0, 12, 0, []), (38, 39, 1, 0, 2, 0, []), (39, 40, 34, 0, 0, 0, [])]
set_option maxRecDepth 100000 in
theorem ok63 : k63.all (chk 63 (qbt 63) (qow 63)) = true := by decide +kernel
/-- ClayBoots$Shire.loadOfAll()I -/
def k64 : List En := [(0, 1, 0, 0, 0, 0, []), (1, 2, 4, 0, 1, 0, []), (2, 3, 0, 0, 0, 0, []), (3, 4, 4, 0, 2, 0, []), (4, 5, 1, 0, 2, 0, []), (5, 6, 2, 0, 0, 0, []), (6, 9, 24, 0, 7, 6, []), (9, 12, 20, 0, 26, 3, []), (12, 13, 1, 0, 1, 0, []), (13, 14, 2, 0, 0, 0, []), (14, 15, 1, 0, 2, 0, []), (15, 18, 44, 0, 63, 2, [(0, 6)]), (18, 19, 8, 0, 0, 0, []), (19, 20, 4, 0, 1, 0, []), (20, 23, 7, 1, 2, 0, []), (23, 26, 18, 0, 4, 0, []), (26, 27, 1, 0, 1, 0, []), (27, 28, 34, 0, 0, 0, [])]
set_option maxRecDepth 100000 in
theorem ok64 : k64.all (chk 64 (qbt 64) (qow 64)) = true := by decide +kernel
/-- ClayBoots$Shire.acresOf(I)I -/
def k65 : List En := [(0, 1, 0, 0, 0, 0, []), (1, 2, 4, 0, 2, 0, []), (2, 3, 2, 0, 0, 0, []), (3, 4, 1, 0, 1, 0, []), (4, 7, 44, 0, 56, 2, [(0, 6)]), (7, 10, 19, 0, 38, 0, []), (10, 11, 0, 0, 0, 0, []), (11, 12, 4, 0, 3, 0, []), (12, 13, 1, 0, 3, 0, []), (13, 15, 0, 10, 0, 0, []), (15, 18, 20, 0, 38, 3, []), (18, 19, 1, 0, 2, 0, []), (19, 20, 2, 0, 0, 0, []), (20, 23, 24, 0, 11, 6, []), (23, 24, 1, 0, 1, 0, []), (24, 26, 0, 10, 0, 0, []), (26, 27, 8, 0, 2, 0, []), (27, 28, 1, 0, 3, 0, []), (28, 29, 8, 0, 0, 0, []), (29, 30, 26, 0, 0, 0, []), (30, 31, 8, 0, 0, 0, []), (31, 32, 4, 0, 2, 0, []), (32, 35, 7, 1, 3, 0, []), (35, 38, 18, 0, 12, 0, []), (38, 39, 1, 0, 2, 0, []), (39, 40, 34, 0, 0, 0, [])]
set_option maxRecDepth 100000 in
theorem ok65 : k65.all (chk 65 (qbt 65) (qow 65)) = true := by decide +kernel
/-- ClayBoots$Shire.holderOf(I)I -/
def k66 : List En := [(0, 1, 0, -1, 0, 0, []), (1, 2, 4, 0, 2, 0, []), (2, 3, 0, 0, 0, 0, []), (3, 4, 4, 0, 3, 0, []), (4, 5, 0, 0, 0, 0, []), (5, 7, 4, 0, 4, 0, []), (7, 9, 1, 0, 4, 0, []), (9, 10, 2, 0, 0, 0, []), (10, 13, 24, 0, 6, 6, []), (13, 16, 20, 0, 71, 3, []), (16, 17, 2, 0, 0, 0, []), (17, 19, 1, 0, 4, 0, []), (19, 22, 44, 0, 56, 2, [(0, 6)]), (22, 25, 19, 0, 71, 0, []), (25, 26, 2, 0, 0, 0, []), (26, 27, 1, 0, 1, 0, []), (27, 30, 44, 0, 55, 2, [(0, 6)]), (30, 33, 19, 0, 71, 0, []), (33, 34, 2, 0, 0, 0, []), (34, 37, 24, 0, 11, 6, []), (37, 39, 1, 0, 4, 0, []), (39, 41, 0, 10, 0, 0, []), (41, 42, 8, 0, 2, 0, []), (42, 43, 1, 0, 1, 0, []), (43, 44, 8, 0, 0, 0, []), (44, 45, 26, 0, 0, 0, []), (45, 46, 1, 0, 3, 0, []), (46, 49, 20, 0, 65, 5, []), (49, 50, 2, 0, 0, 0, []), (50, 53, 24, 0, 11, 6, []), (53, 55, 1, 0, 4, 0, []), (55, 57, 0, 10, 0, 0, []), (57, 58, 8, 0, 2, 0, []), (58, 59, 1, 0, 1, 0, []), (59, 60, 8, 0, 0, 0, []), (60, 61, 26, 0, 0, 0, []), (61, 62, 4, 0, 3, 0, []), (62, 64, 1, 0, 4, 0, []), (64, 65, 4, 0, 2, 0, []), (65, 68, 7, 1, 4, 0, []), (68, 71, 18, 0, 7, 0, []), (71, 72, 1, 0, 2, 0, []), (72, 73, 34, 0, 0, 0, [])]
set_option maxRecDepth 100000 in
theorem ok66 : k66.all (chk 66 (qbt 66) (qow 66)) = true := by decide +kernel
/-- ClayBoots$Shire.countyOf(I)I -/
def k67 : List En := [(0, 1, 0, 0, 0, 0, []), (1, 2, 4, 0, 2, 0, []), (2, 3, 0, 0, 0, 0, []), (3, 4, 4, 0, 3, 0, []), (4, 5, 1, 0, 3, 0, []), (5, 6, 2, 0, 0, 0, []), (6, 9, 24, 0, 5, 6, []), (9, 12, 20, 0, 33, 3, []), (12, 13, 2, 0, 0, 0, []), (13, 14, 1, 0, 3, 0, []), (14, 17, 44, 0, 66, 2, [(0, 6)]), (17, 18, 1, 0, 1, 0, []), (18, 21, 20, 0, 27, 1, []), (21, 22, 1, 0, 2, 0, []), (22, 23, 0, 1, 0, 0, []), (23, 24, 1, 0, 3, 0, []), (24, 25, 8, 0, 6, 0, []), (25, 26, 8, 0, 4, 0, []), (26, 27, 4, 0, 2, 0, []), (27, 30, 7, 1, 3, 0, []), (30, 33, 18, 0, 4, 0, []), (33, 34, 1, 0, 2, 0, []), (34, 35, 34, 0, 0, 0, [])]
set_option maxRecDepth 100000 in
theorem ok67 : k67.all (chk 67 (qbt 67) (qow 67)) = true := by decide +kernel
/-- ClayBoots$Shire.heldFields()I -/
def k68 : List En := [(0, 1, 0, 0, 0, 0, []), (1, 2, 4, 0, 1, 0, []), (2, 3, 0, 0, 0, 0, []), (3, 4, 4, 0, 2, 0, []), (4, 5, 1, 0, 2, 0, []), (5, 6, 2, 0, 0, 0, []), (6, 9, 24, 0, 5, 6, []), (9, 12, 20, 0, 30, 3, []), (12, 13, 2, 0, 0, 0, []), (13, 14, 1, 0, 2, 0, []), (14, 17, 44, 0, 66, 2, [(0, 6)]), (17, 18, 0, -1, 0, 0, []), (18, 21, 20, 0, 24, 0, []), (21, 24, 7, 1, 1, 0, []), (24, 27, 7, 1, 2, 0, []), (27, 30, 18, 0, 4, 0, []), (30, 31, 1, 0, 1, 0, []), (31, 32, 34, 0, 0, 0, [])]
set_option maxRecDepth 100000 in
theorem ok68 : k68.all (chk 68 (qbt 68) (qow 68)) = true := by decide +kernel
/-- ClayBoots$Shire.stoneDoors()I -/
def k69 : List En := [(0, 1, 0, 0, 0, 0, []), (1, 2, 4, 0, 1, 0, []), (2, 3, 0, 0, 0, 0, []), (3, 4, 4, 0, 2, 0, []), (4, 5, 1, 0, 2, 0, []), (5, 7, 0, 8, 0, 0, []), (7, 10, 20, 0, 27, 3, []), (10, 11, 1, 0, 1, 0, []), (11, 12, 2, 0, 0, 0, []), (12, 15, 24, 0, 10, 6, []), (15, 16, 1, 0, 2, 0, []), (16, 17, 26, 0, 0, 0, []), (17, 18, 1, 0, 2, 0, []), (18, 19, 8, 0, 6, 0, []), (19, 20, 8, 0, 4, 0, []), (20, 21, 4, 0, 1, 0, []), (21, 24, 7, 1, 2, 0, []), (24, 27, 18, 0, 4, 0, []), (27, 28, 1, 0, 1, 0, []), (28, 29, 34, 0, 0, 0, [])]
set_option maxRecDepth 100000 in
theorem ok69 : k69.all (chk 69 (qbt 69) (qow 69)) = true := by decide +kernel
/-- ClayBoots$Shire.returnLand(II)V -/
def k70 : List En := [(0, 1, 2, 0, 0, 0, []), (1, 2, 1, 0, 1, 0, []), (2, 5, 44, 0, 55, 2, [(0, 6)]), (5, 8, 19, 0, 28, 0, []), (8, 9, 2, 0, 0, 0, []), (9, 12, 24, 0, 9, 6, []), (12, 13, 1, 0, 1, 0, []), (13, 16, 0, 9999, 0, 0, []), (16, 17, 2, 0, 0, 0, []), (17, 20, 24, 0, 9, 6, []), (20, 21, 1, 0, 1, 0, []), (21, 22, 26, 0, 0, 0, []), (22, 23, 1, 0, 2, 0, []), (23, 24, 8, 0, 0, 0, []), (24, 27, 39, 0, 1, 0, []), (27, 28, 27, 0, 0, 0, []), (28, 29, 37, 0, 0, 0, [])]
set_option maxRecDepth 100000 in
theorem ok70 : k70.all (chk 70 (qbt 70) (qow 70)) = true := by decide +kernel
/-- ClayBoots$Thoughts.become(LClayBoots$Thoughts;)V -/
def k71 : List En := [(0, 1, 2, 0, 1, 0, []), (1, 4, 24, 0, 0, 7, []), (4, 5, 0, 0, 0, 0, []), (5, 6, 2, 0, 0, 0, []), (6, 9, 24, 0, 0, 7, []), (9, 10, 0, 0, 0, 0, []), (10, 12, 0, 6, 0, 0, []), (12, 15, 40, 0, 0, 0, []), (15, 16, 2, 0, 1, 0, []), (16, 19, 24, 0, 1, 7, []), (19, 20, 0, 0, 0, 0, []), (20, 21, 2, 0, 0, 0, []), (21, 24, 24, 0, 1, 7, []), (24, 25, 0, 0, 0, 0, []), (25, 27, 0, 8, 0, 0, []), (27, 30, 40, 0, 0, 0, []), (30, 31, 2, 0, 0, 0, []), (31, 34, 24, 0, 2, 7, []), (34, 35, 2, 0, 1, 0, []), (35, 38, 24, 0, 2, 7, []), (38, 41, 44, 0, 88, 2, [(0, 8)]), (41, 42, 2, 0, 0, 0, []), (42, 45, 24, 0, 3, 7, []), (45, 46, 2, 0, 1, 0, []), (46, 49, 24, 0, 3, 7, []), (49, 52, 44, 0, 88, 2, [(0, 8)]), (52, 53, 2, 0, 0, 0, []), (53, 56, 24, 0, 4, 7, []), (56, 57, 2, 0, 1, 0, []), (57, 60, 24, 0, 4, 7, []), (60, 63, 44, 0, 88, 2, [(0, 8)]), (63, 64, 2, 0, 0, 0, []), (64, 67, 24, 0, 5, 7, []), (67, 68, 2, 0, 1, 0, []), (68, 71, 24, 0, 5, 7, []), (71, 74, 44, 0, 88, 2, [(0, 8)]), (74, 75, 2, 0, 0, 0, []), (75, 78, 24, 0, 6, 7, []), (78, 79, 2, 0, 1, 0, []), (79, 82, 24, 0, 6, 7, []), (82, 85, 44, 0, 88, 2, [(0, 8)]), (85, 86, 37, 0, 0, 0, [])]
set_option maxRecDepth 100000 in
theorem ok71 : k71.all (chk 71 (qbt 71) (qow 71)) = true := by decide +kernel
/-- ClayBoots$Thoughts.waysToGive(ILClayBoots$Shire;)I -/
def k72 : List En := [(0, 1, 1, 0, 1, 0, []), (1, 4, 19, 0, 10, 2, []), (4, 5, 1, 0, 1, 0, []), (5, 7, 0, 6, 0, 0, []), (7, 10, 20, 0, 12, 2, []), (10, 11, 0, -1, 0, 0, []), (11, 12, 34, 0, 0, 0, []), (12, 13, 0, 0, 0, 0, []), (13, 15, 0, 30, 0, 0, []), (15, 16, 2, 0, 0, 0, []), (16, 19, 24, 0, 0, 7, []), (19, 20, 1, 0, 1, 0, []), (20, 21, 26, 0, 0, 0, []), (21, 24, 39, 0, 1, 0, []), (24, 27, 39, 0, 0, 0, []), (27, 28, 4, 0, 3, 0, []), (28, 29, 0, 0, 0, 0, []), (29, 31, 4, 0, 4, 0, []), (31, 33, 1, 0, 4, 0, []), (33, 34, 1, 0, 3, 0, []), (34, 37, 20, 0, 60, 4, []), (37, 38, 2, 0, 0, 0, []), (38, 41, 24, 0, 7, 7, []), (41, 43, 1, 0, 4, 0, []), (43, 45, 1, 0, 4, 0, []), (45, 48, 19, 0, 52, 1, []), (48, 49, 0, 1, 0, 0, []), (49, 52, 18, 0, 53, 0, []), (52, 53, 0, 0, 0, 0, []), (53, 54, 27, 0, 0, 0, []), (54, 57, 7, 1, 4, 0, []), (57, 60, 18, 0, 31, 0, []), (60, 61, 0, 0, 0, 0, []), (61, 63, 4, 0, 4, 0, []), (63, 65, 1, 0, 4, 0, []), (65, 66, 2, 0, 2, 0, []), (66, 69, 24, 0, 5, 6, []), (69, 72, 20, 0, 108, 3, []), (72, 74, 1, 0, 4, 0, []), (74, 76, 0, 10, 0, 0, []), (76, 79, 20, 0, 108, 3, []), (79, 80, 2, 0, 2, 0, []), (80, 83, 24, 0, 8, 6, []), (83, 85, 1, 0, 4, 0, []), (85, 86, 26, 0, 0, 0, []), (86, 87, 1, 0, 1, 0, []), (87, 90, 20, 0, 102, 1, []), (90, 91, 2, 0, 0, 0, []), (91, 92, 1, 0, 3, 0, []), (92, 93, 2, 0, 2, 0, []), (93, 96, 24, 0, 9, 6, []), (96, 98, 1, 0, 4, 0, []), (98, 99, 26, 0, 0, 0, []), (99, 102, 44, 0, 73, 3, [(0, 7)]), (102, 105, 7, 1, 4, 0, []), (105, 108, 18, 0, 63, 0, []), (108, 109, 2, 0, 0, 0, []), (109, 112, 24, 0, 7, 7, []), (112, 113, 1, 0, 3, 0, []), (113, 114, 26, 0, 0, 0, []), (114, 115, 34, 0, 0, 0, [])]
set_option maxRecDepth 100000 in
theorem ok72 : k72.all (chk 72 (qbt 72) (qow 72)) = true := by decide +kernel
/-- ClayBoots$Thoughts.giveOneMore(II)V -/
def k73 : List En := [(0, 1, 1, 0, 1, 0, []), (1, 2, 4, 0, 3, 0, []), (2, 3, 1, 0, 3, 0, []), (3, 6, 19, 0, 62, 2, []), (6, 7, 42, 0, 0, 0, []), (7, 9, 6, 0, 4, 0, []), (9, 10, 0, 0, 0, 0, []), (10, 11, 1, 0, 3, 0, []), (11, 12, 1, 0, 2, 0, []), (12, 13, 8, 0, 1, 0, []), (13, 16, 39, 0, 0, 0, []), (16, 18, 4, 0, 6, 0, []), (18, 20, 1, 0, 6, 0, []), (20, 21, 1, 0, 3, 0, []), (21, 24, 20, 0, 43, 4, []), (24, 26, 3, 0, 4, 0, []), (26, 27, 2, 0, 0, 0, []), (27, 30, 24, 0, 7, 7, []), (30, 32, 1, 0, 6, 0, []), (32, 33, 26, 0, 0, 0, []), (33, 34, 13, 0, 0, 0, []), (34, 35, 11, 0, 0, 0, []), (35, 37, 6, 0, 4, 0, []), (37, 40, 7, 1, 6, 0, []), (40, 43, 18, 0, 18, 0, []), (43, 44, 2, 0, 0, 0, []), (44, 47, 24, 0, 7, 7, []), (47, 48, 1, 0, 3, 0, []), (48, 50, 3, 0, 4, 0, []), (50, 53, 42, 0, 1000000007, 0, []), (53, 54, 12, 0, 0, 0, []), (54, 55, 14, 0, 0, 0, []), (55, 56, 27, 0, 0, 0, []), (56, 59, 7, -1, 3, 0, []), (59, 62, 18, 0, 2, 0, []), (62, 63, 37, 0, 0, 0, [])]
set_option maxRecDepth 100000 in
theorem ok73 : k73.all (chk 73 (qbt 73) (qow 73)) = true := by decide +kernel
/-- ClayBoots$Thoughts.putBack(Z)I -/
def k74 : List En := [(0, 1, 0, 0, 0, 0, []), (1, 2, 4, 0, 2, 0, []), (2, 3, 0, 0, 0, 0, []), (3, 4, 4, 0, 3, 0, []), (4, 5, 1, 0, 3, 0, []), (5, 7, 0, 8, 0, 0, []), (7, 10, 20, 0, 27, 3, []), (10, 11, 1, 0, 2, 0, []), (11, 12, 0, 1, 0, 0, []), (12, 13, 2, 0, 0, 0, []), (13, 16, 24, 0, 1, 7, []), (16, 17, 1, 0, 3, 0, []), (17, 18, 26, 0, 0, 0, []), (18, 19, 8, 0, 6, 0, []), (19, 20, 8, 0, 4, 0, []), (20, 21, 4, 0, 2, 0, []), (21, 24, 7, 1, 3, 0, []), (24, 27, 18, 0, 4, 0, []), (27, 28, 1, 0, 2, 0, []), (28, 31, 0, 255, 0, 0, []), (31, 34, 20, 0, 36, 0, []), (34, 35, 0, -1, 0, 0, []), (35, 36, 34, 0, 0, 0, []), (36, 37, 0, 0, 0, 0, []), (37, 38, 4, 0, 3, 0, []), (38, 39, 0, 0, 0, 0, []), (39, 41, 4, 0, 4, 0, []), (41, 42, 0, 0, 0, 0, []), (42, 44, 4, 0, 5, 0, []), (44, 46, 1, 0, 5, 0, []), (46, 48, 0, 8, 0, 0, []), (48, 51, 20, 0, 78, 3, []), (51, 52, 2, 0, 0, 0, []), (52, 54, 1, 0, 5, 0, []), (54, 57, 44, 0, 75, 2, [(0, 7)]), (57, 59, 4, 0, 6, 0, []), (59, 61, 1, 0, 6, 0, []), (61, 64, 19, 0, 72, 5, []), (64, 65, 1, 0, 3, 0, []), (65, 67, 1, 0, 6, 0, []), (67, 68, 8, 0, 0, 0, []), (68, 69, 4, 0, 3, 0, []), (69, 72, 7, 1, 4, 0, []), (72, 75, 7, 1, 5, 0, []), (75, 78, 18, 0, 44, 0, []), (78, 79, 1, 0, 1, 0, []), (79, 82, 19, 0, 86, 0, []), (82, 83, 1, 0, 3, 0, []), (83, 86, 18, 0, 88, 0, []), (86, 88, 1, 0, 4, 0, []), (88, 89, 34, 0, 0, 0, [])]
set_option maxRecDepth 100000 in
theorem ok74 : k74.all (chk 74 (qbt 74) (qow 74)) = true := by decide +kernel
/-- ClayBoots$Thoughts.ringFrom(I)I -/
def k75 : List En := [(0, 1, 0, 0, 0, 0, []), (1, 2, 4, 0, 2, 0, []), (2, 3, 2, 0, 0, 0, []), (3, 6, 24, 0, 1, 7, []), (6, 7, 1, 0, 1, 0, []), (7, 8, 26, 0, 0, 0, []), (8, 9, 4, 0, 3, 0, []), (9, 10, 0, 0, 0, 0, []), (10, 12, 4, 0, 4, 0, []), (12, 14, 1, 0, 4, 0, []), (14, 16, 0, 8, 0, 0, []), (16, 19, 20, 0, 46, 3, []), (19, 20, 1, 0, 3, 0, []), (20, 21, 1, 0, 1, 0, []), (21, 24, 20, 0, 46, 5, []), (24, 25, 1, 0, 3, 0, []), (25, 27, 0, 8, 0, 0, []), (27, 30, 20, 0, 46, 3, []), (30, 33, 7, 1, 2, 0, []), (33, 34, 2, 0, 0, 0, []), (34, 37, 24, 0, 1, 7, []), (37, 38, 1, 0, 3, 0, []), (38, 39, 26, 0, 0, 0, []), (39, 40, 4, 0, 3, 0, []), (40, 43, 7, 1, 4, 0, []), (43, 46, 18, 0, 12, 0, []), (46, 47, 1, 0, 3, 0, []), (47, 48, 1, 0, 1, 0, []), (48, 51, 20, 0, 55, 1, []), (51, 52, 1, 0, 2, 0, []), (52, 55, 18, 0, 56, 0, []), (55, 56, 0, 0, 0, 0, []), (56, 57, 34, 0, 0, 0, [])]
set_option maxRecDepth 100000 in
theorem ok75 : k75.all (chk 75 (qbt 75) (qow 75)) = true := by decide +kernel
/-- ClayBoots$Thoughts.nearestWear(II)I -/
def k76 : List En := [(0, 1, 0, -1, 0, 0, []), (1, 2, 4, 0, 3, 0, []), (2, 4, 0, 1000000, 0, 0, []), (4, 6, 4, 0, 4, 0, []), (6, 7, 0, 0, 0, 0, []), (7, 9, 4, 0, 5, 0, []), (9, 11, 1, 0, 5, 0, []), (11, 12, 2, 0, 0, 0, []), (12, 15, 24, 0, 2, 7, []), (15, 18, 24, 0, 0, 8, []), (18, 21, 20, 0, 81, 3, []), (21, 23, 1, 0, 5, 0, []), (23, 25, 0, 10, 0, 0, []), (25, 28, 20, 0, 81, 3, []), (28, 29, 2, 0, 0, 0, []), (29, 32, 24, 0, 2, 7, []), (32, 35, 24, 0, 1, 8, []), (35, 37, 1, 0, 5, 0, []), (37, 38, 26, 0, 0, 0, []), (38, 39, 1, 0, 1, 0, []), (39, 40, 8, 0, 1, 0, []), (40, 43, 39, 0, 2, 0, []), (43, 44, 2, 0, 0, 0, []), (44, 47, 24, 0, 2, 7, []), (47, 50, 24, 0, 2, 8, []), (50, 52, 1, 0, 5, 0, []), (52, 53, 26, 0, 0, 0, []), (53, 54, 1, 0, 2, 0, []), (54, 55, 8, 0, 1, 0, []), (55, 58, 39, 0, 2, 0, []), (58, 59, 8, 0, 0, 0, []), (59, 61, 4, 0, 6, 0, []), (61, 63, 1, 0, 6, 0, []), (63, 65, 1, 0, 4, 0, []), (65, 68, 20, 0, 75, 3, []), (68, 70, 1, 0, 6, 0, []), (70, 72, 4, 0, 4, 0, []), (72, 74, 1, 0, 5, 0, []), (74, 75, 4, 0, 3, 0, []), (75, 78, 7, 1, 5, 0, []), (78, 81, 18, 0, 9, 0, []), (81, 82, 1, 0, 3, 0, []), (82, 83, 34, 0, 0, 0, [])]
set_option maxRecDepth 100000 in
theorem ok76 : k76.all (chk 76 (qbt 76) (qow 76)) = true := by decide +kernel
/-- ClayBoots$Thoughts.closeWears(I)I -/
def k77 : List En := [(0, 1, 0, 0, 0, 0, []), (1, 2, 4, 0, 2, 0, []), (2, 3, 0, 0, 0, 0, []), (3, 4, 4, 0, 3, 0, []), (4, 5, 1, 0, 3, 0, []), (5, 6, 2, 0, 0, 0, []), (6, 9, 24, 0, 2, 7, []), (9, 12, 24, 0, 0, 8, []), (12, 15, 20, 0, 100, 3, []), (15, 16, 1, 0, 3, 0, []), (16, 18, 0, 10, 0, 0, []), (18, 21, 20, 0, 100, 3, []), (21, 22, 0, 0, 0, 0, []), (22, 24, 4, 0, 4, 0, []), (24, 26, 1, 0, 4, 0, []), (26, 27, 1, 0, 3, 0, []), (27, 30, 20, 0, 94, 3, []), (30, 31, 2, 0, 0, 0, []), (31, 34, 24, 0, 2, 7, []), (34, 37, 24, 0, 1, 8, []), (37, 38, 1, 0, 3, 0, []), (38, 39, 26, 0, 0, 0, []), (39, 40, 2, 0, 0, 0, []), (40, 43, 24, 0, 2, 7, []), (43, 46, 24, 0, 1, 8, []), (46, 48, 1, 0, 4, 0, []), (48, 49, 26, 0, 0, 0, []), (49, 50, 8, 0, 1, 0, []), (50, 53, 39, 0, 2, 0, []), (53, 54, 2, 0, 0, 0, []), (54, 57, 24, 0, 2, 7, []), (57, 60, 24, 0, 2, 8, []), (60, 61, 1, 0, 3, 0, []), (61, 62, 26, 0, 0, 0, []), (62, 63, 2, 0, 0, 0, []), (63, 66, 24, 0, 2, 7, []), (66, 69, 24, 0, 2, 8, []), (69, 71, 1, 0, 4, 0, []), (71, 72, 26, 0, 0, 0, []), (72, 73, 8, 0, 1, 0, []), (73, 76, 39, 0, 2, 0, []), (76, 77, 8, 0, 0, 0, []), (77, 79, 4, 0, 5, 0, []), (79, 81, 1, 0, 5, 0, []), (81, 82, 1, 0, 1, 0, []), (82, 85, 20, 0, 88, 4, []), (85, 88, 7, 1, 2, 0, []), (88, 91, 7, 1, 4, 0, []), (91, 94, 18, 0, 24, 0, []), (94, 97, 7, 1, 3, 0, []), (97, 100, 18, 0, 4, 0, []), (100, 101, 1, 0, 2, 0, []), (101, 102, 34, 0, 0, 0, [])]
set_option maxRecDepth 100000 in
theorem ok77 : k77.all (chk 77 (qbt 77) (qow 77)) = true := by decide +kernel
/-- ClayBoots$Thoughts.standInLine(IZ)I -/
def k78 : List En := [(0, 1, 0, 0, 0, 0, []), (1, 2, 4, 0, 3, 0, []), (2, 3, 1, 0, 3, 0, []), (3, 4, 0, 4, 0, 0, []), (4, 7, 20, 0, 20, 3, []), (7, 8, 2, 0, 0, 0, []), (8, 11, 24, 0, 8, 7, []), (11, 12, 1, 0, 3, 0, []), (12, 13, 0, 0, 0, 0, []), (13, 14, 27, 0, 0, 0, []), (14, 17, 7, 1, 3, 0, []), (17, 20, 18, 0, 2, 0, []), (20, 21, 0, 0, 0, 0, []), (21, 22, 4, 0, 3, 0, []), (22, 23, 0, 0, 0, 0, []), (23, 25, 4, 0, 4, 0, []), (25, 26, 0, 0, 0, 0, []), (26, 28, 4, 0, 5, 0, []), (28, 29, 0, 0, 0, 0, []), (29, 31, 4, 0, 6, 0, []), (31, 33, 1, 0, 6, 0, []), (33, 34, 2, 0, 0, 0, []), (34, 37, 24, 0, 3, 7, []), (37, 40, 24, 0, 0, 8, []), (40, 43, 20, 0, 152, 3, []), (43, 45, 1, 0, 6, 0, []), (45, 47, 0, 10, 0, 0, []), (47, 50, 20, 0, 152, 3, []), (50, 51, 2, 0, 0, 0, []), (51, 53, 1, 0, 5, 0, []), (53, 56, 44, 0, 79, 2, [(0, 7)]), (56, 58, 4, 0, 7, 0, []), (58, 59, 2, 0, 0, 0, []), (59, 60, 1, 0, 1, 0, []), (60, 63, 44, 0, 80, 2, [(0, 7)]), (63, 65, 4, 0, 8, 0, []), (65, 67, 1, 0, 5, 0, []), (67, 68, 0, 1, 0, 0, []), (68, 70, 1, 0, 7, 0, []), (70, 71, 8, 0, 6, 0, []), (71, 72, 8, 0, 4, 0, []), (72, 74, 4, 0, 5, 0, []), (74, 75, 2, 0, 0, 0, []), (75, 78, 24, 0, 8, 7, []), (78, 80, 1, 0, 8, 0, []), (80, 81, 26, 0, 0, 0, []), (81, 82, 2, 0, 0, 0, []), (82, 85, 24, 0, 3, 7, []), (85, 88, 24, 0, 1, 8, []), (88, 90, 1, 0, 7, 0, []), (90, 91, 26, 0, 0, 0, []), (91, 94, 39, 0, 0, 0, []), (94, 96, 4, 0, 9, 0, []), (96, 97, 1, 0, 3, 0, []), (97, 99, 1, 0, 9, 0, []), (99, 100, 2, 0, 0, 0, []), (100, 103, 24, 0, 3, 7, []), (103, 106, 24, 0, 1, 8, []), (106, 108, 1, 0, 7, 0, []), (108, 109, 26, 0, 0, 0, []), (109, 110, 8, 0, 1, 0, []), (110, 111, 8, 0, 0, 0, []), (111, 112, 4, 0, 3, 0, []), (112, 113, 2, 0, 0, 0, []), (113, 116, 24, 0, 8, 7, []), (116, 118, 1, 0, 8, 0, []), (118, 120, 1, 0, 9, 0, []), (120, 121, 2, 0, 0, 0, []), (121, 124, 24, 0, 3, 7, []), (124, 127, 24, 0, 2, 8, []), (127, 129, 1, 0, 7, 0, []), (129, 130, 26, 0, 0, 0, []), (130, 131, 8, 0, 0, 0, []), (131, 132, 27, 0, 0, 0, []), (132, 134, 1, 0, 4, 0, []), (134, 135, 2, 0, 0, 0, []), (135, 138, 24, 0, 8, 7, []), (138, 140, 1, 0, 8, 0, []), (140, 141, 26, 0, 0, 0, []), (141, 144, 39, 0, 0, 0, []), (144, 146, 4, 0, 4, 0, []), (146, 149, 7, 1, 6, 0, []), (149, 152, 18, 0, 31, 0, []), (152, 153, 1, 0, 2, 0, []), (153, 156, 19, 0, 160, 0, []), (156, 157, 1, 0, 3, 0, []), (157, 160, 18, 0, 162, 0, []), (160, 162, 1, 0, 4, 0, []), (162, 163, 34, 0, 0, 0, [])]
set_option maxRecDepth 100000 in
theorem ok78 : k78.all (chk 78 (qbt 78) (qow 78)) = true := by decide +kernel
end
section
/-- ClayBoots$Thoughts.nextCaller(I)I -/
def k79 : List En := [(0, 1, 0, 0, 0, 0, []), (1, 2, 4, 0, 2, 0, []), (2, 4, 0, 1000000, 0, 0, []), (4, 5, 4, 0, 3, 0, []), (5, 6, 0, 0, 0, 0, []), (6, 8, 4, 0, 4, 0, []), (8, 10, 1, 0, 4, 0, []), (10, 11, 2, 0, 0, 0, []), (11, 14, 24, 0, 3, 7, []), (14, 17, 24, 0, 0, 8, []), (17, 20, 20, 0, 70, 3, []), (20, 22, 1, 0, 4, 0, []), (22, 24, 0, 10, 0, 0, []), (24, 27, 20, 0, 70, 3, []), (27, 28, 1, 0, 1, 0, []), (28, 30, 1, 0, 4, 0, []), (30, 31, 8, 0, 7, 0, []), (31, 32, 0, 1, 0, 0, []), (32, 33, 8, 0, 3, 0, []), (33, 36, 19, 0, 64, 1, []), (36, 37, 2, 0, 0, 0, []), (37, 40, 24, 0, 3, 7, []), (40, 43, 24, 0, 1, 8, []), (43, 45, 1, 0, 4, 0, []), (45, 46, 26, 0, 0, 0, []), (46, 47, 1, 0, 3, 0, []), (47, 50, 20, 0, 64, 3, []), (50, 51, 2, 0, 0, 0, []), (51, 54, 24, 0, 3, 7, []), (54, 57, 24, 0, 1, 8, []), (57, 59, 1, 0, 4, 0, []), (59, 60, 26, 0, 0, 0, []), (60, 61, 4, 0, 3, 0, []), (61, 63, 1, 0, 4, 0, []), (63, 64, 4, 0, 2, 0, []), (64, 67, 7, 1, 4, 0, []), (67, 70, 18, 0, 8, 0, []), (70, 71, 1, 0, 2, 0, []), (71, 72, 34, 0, 0, 0, [])]
set_option maxRecDepth 100000 in
theorem ok79 : k79.all (chk 79 (qbt 79) (qow 79)) = true := by decide +kernel
/-- ClayBoots$Thoughts.freeFirst(I)I -/
def k80 : List En := [(0, 1, 0, 0, 0, 0, []), (1, 2, 4, 0, 2, 0, []), (2, 3, 0, 1, 0, 0, []), (3, 4, 4, 0, 3, 0, []), (4, 5, 1, 0, 3, 0, []), (5, 6, 1, 0, 1, 0, []), (6, 9, 20, 0, 37, 3, []), (9, 10, 1, 0, 3, 0, []), (10, 11, 0, 4, 0, 0, []), (11, 14, 20, 0, 37, 3, []), (14, 15, 2, 0, 0, 0, []), (15, 18, 24, 0, 8, 7, []), (18, 19, 1, 0, 3, 0, []), (19, 20, 26, 0, 0, 0, []), (20, 21, 2, 0, 0, 0, []), (21, 24, 24, 0, 8, 7, []), (24, 25, 1, 0, 2, 0, []), (25, 26, 26, 0, 0, 0, []), (26, 29, 20, 0, 31, 3, []), (29, 30, 1, 0, 3, 0, []), (30, 31, 4, 0, 2, 0, []), (31, 34, 7, 1, 3, 0, []), (34, 37, 18, 0, 4, 0, []), (37, 38, 1, 0, 2, 0, []), (38, 39, 34, 0, 0, 0, [])]
set_option maxRecDepth 100000 in
theorem ok80 : k80.all (chk 80 (qbt 80) (qow 80)) = true := by decide +kernel
/-- ClayBoots$Thoughts.bestDays(IZ)I -/
def k81 : List En := [(0, 1, 0, -1, 0, 0, []), (1, 2, 4, 0, 3, 0, []), (2, 3, 0, -1, 0, 0, []), (3, 5, 4, 0, 4, 0, []), (5, 6, 2, 0, 0, 0, []), (6, 9, 24, 0, 4, 7, []), (9, 12, 24, 0, 0, 8, []), (12, 14, 0, 20, 0, 0, []), (14, 17, 39, 0, 1, 0, []), (17, 18, 0, 1, 0, 0, []), (18, 19, 8, 0, 1, 0, []), (19, 21, 4, 0, 5, 0, []), (21, 23, 1, 0, 5, 0, []), (23, 26, 19, 0, 129, 2, []), (26, 27, 0, 0, 0, 0, []), (27, 29, 4, 0, 6, 0, []), (29, 31, 1, 0, 5, 0, []), (31, 32, 0, 1, 0, 0, []), (32, 33, 8, 0, 0, 0, []), (33, 34, 0, 0, 0, 0, []), (34, 35, 1, 0, 1, 0, []), (35, 38, 39, 0, 0, 0, []), (38, 39, 8, 0, 0, 0, []), (39, 41, 4, 0, 7, 0, []), (41, 43, 1, 0, 7, 0, []), (43, 44, 2, 0, 0, 0, []), (44, 47, 24, 0, 4, 7, []), (47, 50, 24, 0, 0, 8, []), (50, 53, 20, 0, 80, 3, []), (53, 55, 1, 0, 7, 0, []), (55, 57, 0, 20, 0, 0, []), (57, 60, 20, 0, 80, 3, []), (60, 62, 1, 0, 6, 0, []), (62, 63, 2, 0, 0, 0, []), (63, 66, 24, 0, 9, 7, []), (66, 68, 1, 0, 7, 0, []), (68, 69, 26, 0, 0, 0, []), (69, 72, 39, 0, 0, 0, []), (72, 74, 4, 0, 6, 0, []), (74, 77, 7, 1, 7, 0, []), (77, 80, 18, 0, 41, 0, []), (80, 81, 2, 0, 0, 0, []), (81, 84, 24, 0, 9, 7, []), (84, 86, 1, 0, 5, 0, []), (86, 87, 2, 0, 0, 0, []), (87, 90, 24, 0, 4, 7, []), (90, 93, 24, 0, 1, 8, []), (93, 95, 1, 0, 5, 0, []), (95, 96, 26, 0, 0, 0, []), (96, 98, 1, 0, 6, 0, []), (98, 99, 8, 0, 0, 0, []), (99, 100, 27, 0, 0, 0, []), (100, 101, 2, 0, 0, 0, []), (101, 104, 24, 0, 9, 7, []), (104, 106, 1, 0, 5, 0, []), (106, 107, 26, 0, 0, 0, []), (107, 108, 1, 0, 3, 0, []), (108, 111, 20, 0, 123, 2, []), (111, 112, 2, 0, 0, 0, []), (112, 115, 24, 0, 9, 7, []), (115, 117, 1, 0, 5, 0, []), (117, 118, 26, 0, 0, 0, []), (118, 119, 4, 0, 3, 0, []), (119, 121, 1, 0, 5, 0, []), (121, 123, 4, 0, 4, 0, []), (123, 126, 7, -1, 5, 0, []), (126, 129, 18, 0, 21, 0, []), (129, 130, 1, 0, 2, 0, []), (130, 133, 19, 0, 141, 0, []), (133, 134, 0, 0, 0, 0, []), (134, 135, 1, 0, 3, 0, []), (135, 138, 39, 0, 0, 0, []), (138, 141, 18, 0, 143, 0, []), (141, 143, 1, 0, 4, 0, []), (143, 144, 34, 0, 0, 0, [])]
set_option maxRecDepth 100000 in
theorem ok81 : k81.all (chk 81 (qbt 81) (qow 81)) = true := by decide +kernel
/-- ClayBoots$Thoughts.mostOffering(I)I -/
def k82 : List En := [(0, 1, 0, -1, 0, 0, []), (1, 2, 4, 0, 2, 0, []), (2, 3, 0, 0, 0, 0, []), (3, 4, 4, 0, 3, 0, []), (4, 5, 1, 0, 3, 0, []), (5, 6, 0, 4, 0, 0, []), (6, 9, 20, 0, 35, 3, []), (9, 10, 1, 0, 3, 0, []), (10, 11, 1, 0, 1, 0, []), (11, 14, 20, 0, 29, 0, []), (14, 15, 2, 0, 0, 0, []), (15, 16, 1, 0, 3, 0, []), (16, 19, 44, 0, 83, 2, [(0, 7)]), (19, 20, 2, 0, 0, 0, []), (20, 21, 1, 0, 2, 0, []), (21, 24, 44, 0, 83, 2, [(0, 7)]), (24, 27, 20, 0, 29, 5, []), (27, 28, 1, 0, 3, 0, []), (28, 29, 4, 0, 2, 0, []), (29, 32, 7, 1, 3, 0, []), (32, 35, 18, 0, 4, 0, []), (35, 36, 1, 0, 2, 0, []), (36, 37, 34, 0, 0, 0, [])]
set_option maxRecDepth 100000 in
theorem ok82 : k82.all (chk 82 (qbt 82) (qow 82)) = true := by decide +kernel
/-- ClayBoots$Thoughts.greatestOf(I)I -/
def k83 : List En := [(0, 1, 0, -1, 0, 0, []), (1, 2, 4, 0, 2, 0, []), (2, 3, 0, 0, 0, 0, []), (3, 4, 4, 0, 3, 0, []), (4, 5, 1, 0, 3, 0, []), (5, 6, 2, 0, 0, 0, []), (6, 9, 24, 0, 5, 7, []), (9, 12, 24, 0, 0, 8, []), (12, 15, 20, 0, 54, 3, []), (15, 16, 1, 0, 3, 0, []), (16, 18, 0, 8, 0, 0, []), (18, 21, 20, 0, 54, 3, []), (21, 22, 2, 0, 0, 0, []), (22, 25, 24, 0, 5, 7, []), (25, 28, 24, 0, 1, 8, []), (28, 29, 1, 0, 3, 0, []), (29, 30, 26, 0, 0, 0, []), (30, 31, 1, 0, 1, 0, []), (31, 34, 20, 0, 48, 1, []), (34, 35, 1, 0, 2, 0, []), (35, 36, 2, 0, 0, 0, []), (36, 39, 24, 0, 5, 7, []), (39, 42, 24, 0, 2, 8, []), (42, 43, 1, 0, 3, 0, []), (43, 44, 26, 0, 0, 0, []), (44, 47, 39, 0, 0, 0, []), (47, 48, 4, 0, 2, 0, []), (48, 51, 7, 1, 3, 0, []), (51, 54, 18, 0, 4, 0, []), (54, 55, 1, 0, 2, 0, []), (55, 56, 34, 0, 0, 0, [])]
set_option maxRecDepth 100000 in
theorem ok83 : k83.all (chk 83 (qbt 83) (qow 83)) = true := by decide +kernel
/-- ClayBoots$Thoughts.longestRow(Z)I -/
def k84 : List En := [(0, 1, 0, 0, 0, 0, []), (1, 2, 4, 0, 2, 0, []), (2, 3, 0, 1, 0, 0, []), (3, 4, 4, 0, 3, 0, []), (4, 5, 0, 0, 0, 0, []), (5, 7, 4, 0, 4, 0, []), (7, 9, 1, 0, 4, 0, []), (9, 10, 2, 0, 0, 0, []), (10, 13, 24, 0, 6, 7, []), (13, 16, 24, 0, 0, 8, []), (16, 19, 20, 0, 89, 3, []), (19, 21, 1, 0, 4, 0, []), (21, 23, 0, 12, 0, 0, []), (23, 26, 20, 0, 89, 3, []), (26, 27, 2, 0, 0, 0, []), (27, 29, 1, 0, 4, 0, []), (29, 32, 44, 0, 85, 2, [(0, 7)]), (32, 33, 2, 0, 0, 0, []), (33, 36, 24, 0, 10, 7, []), (36, 38, 1, 0, 4, 0, []), (38, 39, 26, 0, 0, 0, []), (39, 40, 1, 0, 2, 0, []), (40, 43, 20, 0, 62, 5, []), (43, 44, 2, 0, 0, 0, []), (44, 47, 24, 0, 10, 7, []), (47, 49, 1, 0, 4, 0, []), (49, 50, 26, 0, 0, 0, []), (50, 51, 4, 0, 2, 0, []), (51, 52, 2, 0, 0, 0, []), (52, 55, 24, 0, 11, 7, []), (55, 57, 1, 0, 4, 0, []), (57, 58, 26, 0, 0, 0, []), (58, 59, 4, 0, 3, 0, []), (59, 62, 18, 0, 83, 0, []), (62, 63, 2, 0, 0, 0, []), (63, 66, 24, 0, 10, 7, []), (66, 68, 1, 0, 4, 0, []), (68, 69, 26, 0, 0, 0, []), (69, 70, 1, 0, 2, 0, []), (70, 73, 20, 0, 83, 1, []), (73, 74, 1, 0, 3, 0, []), (74, 75, 2, 0, 0, 0, []), (75, 78, 24, 0, 11, 7, []), (78, 80, 1, 0, 4, 0, []), (80, 81, 26, 0, 0, 0, []), (81, 82, 8, 0, 0, 0, []), (82, 83, 4, 0, 3, 0, []), (83, 86, 7, 1, 4, 0, []), (86, 89, 18, 0, 7, 0, []), (89, 90, 1, 0, 1, 0, []), (90, 93, 19, 0, 97, 0, []), (93, 94, 1, 0, 2, 0, []), (94, 97, 18, 0, 98, 0, []), (97, 98, 1, 0, 3, 0, []), (98, 99, 34, 0, 0, 0, [])]
set_option maxRecDepth 100000 in
theorem ok84 : k84.all (chk 84 (qbt 84) (qow 84)) = true := by decide +kernel
/-- ClayBoots$Thoughts.rowsEndingAt(I)V -/
def k85 : List En := [(0, 1, 1, 0, 1, 0, []), (1, 4, 19, 0, 10, 2, []), (4, 5, 1, 0, 1, 0, []), (5, 7, 0, 12, 0, 0, []), (7, 10, 20, 0, 11, 2, []), (10, 11, 37, 0, 0, 0, []), (11, 12, 2, 0, 0, 0, []), (12, 15, 24, 0, 10, 7, []), (15, 16, 1, 0, 1, 0, []), (16, 17, 0, 1, 0, 0, []), (17, 18, 27, 0, 0, 0, []), (18, 19, 2, 0, 0, 0, []), (19, 22, 24, 0, 11, 7, []), (22, 23, 1, 0, 1, 0, []), (23, 24, 0, 1, 0, 0, []), (24, 25, 27, 0, 0, 0, []), (25, 26, 0, 0, 0, 0, []), (26, 27, 4, 0, 2, 0, []), (27, 28, 1, 0, 2, 0, []), (28, 29, 1, 0, 1, 0, []), (29, 32, 20, 0, 137, 3, []), (32, 33, 2, 0, 0, 0, []), (33, 36, 24, 0, 6, 7, []), (36, 39, 24, 0, 1, 8, []), (39, 40, 1, 0, 2, 0, []), (40, 41, 26, 0, 0, 0, []), (41, 42, 2, 0, 0, 0, []), (42, 45, 24, 0, 6, 7, []), (45, 48, 24, 0, 1, 8, []), (48, 49, 1, 0, 1, 0, []), (49, 50, 26, 0, 0, 0, []), (50, 53, 20, 0, 131, 3, []), (53, 54, 2, 0, 0, 0, []), (54, 57, 24, 0, 10, 7, []), (57, 58, 1, 0, 2, 0, []), (58, 59, 26, 0, 0, 0, []), (59, 60, 0, 1, 0, 0, []), (60, 61, 8, 0, 0, 0, []), (61, 62, 2, 0, 0, 0, []), (62, 65, 24, 0, 10, 7, []), (65, 66, 1, 0, 1, 0, []), (66, 67, 26, 0, 0, 0, []), (67, 70, 20, 0, 99, 5, []), (70, 71, 2, 0, 0, 0, []), (71, 74, 24, 0, 10, 7, []), (74, 75, 1, 0, 1, 0, []), (75, 76, 2, 0, 0, 0, []), (76, 79, 24, 0, 10, 7, []), (79, 80, 1, 0, 2, 0, []), (80, 81, 26, 0, 0, 0, []), (81, 82, 0, 1, 0, 0, []), (82, 83, 8, 0, 0, 0, []), (83, 84, 27, 0, 0, 0, []), (84, 85, 2, 0, 0, 0, []), (85, 88, 24, 0, 11, 7, []), (88, 89, 1, 0, 1, 0, []), (89, 90, 2, 0, 0, 0, []), (90, 93, 24, 0, 11, 7, []), (93, 94, 1, 0, 2, 0, []), (94, 95, 26, 0, 0, 0, []), (95, 96, 27, 0, 0, 0, []), (96, 99, 18, 0, 131, 0, []), (99, 100, 2, 0, 0, 0, []), (100, 103, 24, 0, 10, 7, []), (103, 104, 1, 0, 2, 0, []), (104, 105, 26, 0, 0, 0, []), (105, 106, 0, 1, 0, 0, []), (106, 107, 8, 0, 0, 0, []), (107, 108, 2, 0, 0, 0, []), (108, 111, 24, 0, 10, 7, []), (111, 112, 1, 0, 1, 0, []), (112, 113, 26, 0, 0, 0, []), (113, 116, 20, 0, 131, 1, []), (116, 117, 2, 0, 0, 0, []), (117, 120, 24, 0, 11, 7, []), (120, 121, 1, 0, 1, 0, []), (121, 122, 16, 0, 0, 0, []), (122, 123, 26, 0, 0, 0, []), (123, 124, 2, 0, 0, 0, []), (124, 127, 24, 0, 11, 7, []), (127, 128, 1, 0, 2, 0, []), (128, 129, 26, 0, 0, 0, []), (129, 130, 8, 0, 0, 0, []), (130, 131, 27, 0, 0, 0, []), (131, 134, 7, 1, 2, 0, []), (134, 137, 18, 0, 27, 0, []), (137, 138, 37, 0, 0, 0, [])]
set_option maxRecDepth 100000 in
theorem ok85 : k85.all (chk 85 (qbt 85) (qow 85)) = true := by decide +kernel
/-- ClayBoots$Told.add(II)I -/
def k86 : List En := [(0, 1, 2, 0, 0, 0, []), (1, 4, 24, 0, 0, 8, []), (4, 5, 2, 0, 0, 0, []), (5, 8, 24, 0, 1, 8, []), (8, 9, 33, 0, 0, 0, []), (9, 12, 20, 0, 24, 3, []), (12, 13, 2, 0, 0, 0, []), (13, 16, 24, 0, 0, 8, []), (16, 17, 2, 0, 0, 0, []), (17, 20, 24, 0, 2, 8, []), (20, 21, 33, 0, 0, 0, []), (21, 24, 20, 0, 26, 2, []), (24, 25, 0, -1, 0, 0, []), (25, 26, 34, 0, 0, 0, []), (26, 27, 2, 0, 0, 0, []), (27, 30, 24, 0, 1, 8, []), (30, 31, 2, 0, 0, 0, []), (31, 34, 24, 0, 0, 8, []), (34, 35, 1, 0, 1, 0, []), (35, 36, 27, 0, 0, 0, []), (36, 37, 2, 0, 0, 0, []), (37, 40, 24, 0, 2, 8, []), (40, 41, 2, 0, 0, 0, []), (41, 44, 24, 0, 0, 8, []), (44, 45, 1, 0, 2, 0, []), (45, 46, 27, 0, 0, 0, []), (46, 47, 2, 0, 0, 0, []), (47, 48, 15, 0, 0, 0, []), (48, 51, 24, 0, 0, 8, []), (51, 52, 0, 1, 0, 0, []), (52, 53, 8, 0, 0, 0, []), (53, 56, 25, 0, 0, 8, []), (56, 57, 2, 0, 0, 0, []), (57, 60, 24, 0, 0, 8, []), (60, 61, 34, 0, 0, 0, [])]
set_option maxRecDepth 100000 in
theorem ok86 : k86.all (chk 86 (qbt 86) (qow 86)) = true := by decide +kernel
/-- ClayBoots$Told.clear()I -/
def k87 : List En := [(0, 1, 2, 0, 0, 0, []), (1, 2, 0, 0, 0, 0, []), (2, 5, 25, 0, 0, 8, []), (5, 6, 0, 0, 0, 0, []), (6, 7, 34, 0, 0, 0, [])]
set_option maxRecDepth 100000 in
theorem ok87 : k87.all (chk 87 (qbt 87) (qow 87)) = true := by decide +kernel
/-- ClayBoots$Told.become(LClayBoots$Told;)V -/
def k88 : List En := [(0, 1, 2, 0, 0, 0, []), (1, 2, 2, 0, 1, 0, []), (2, 5, 24, 0, 0, 8, []), (5, 6, 2, 0, 0, 0, []), (6, 9, 24, 0, 1, 8, []), (9, 10, 33, 0, 0, 0, []), (10, 13, 39, 0, 1, 0, []), (13, 16, 25, 0, 0, 8, []), (16, 17, 0, 0, 0, 0, []), (17, 18, 4, 0, 2, 0, []), (18, 19, 1, 0, 2, 0, []), (19, 20, 2, 0, 0, 0, []), (20, 23, 24, 0, 0, 8, []), (23, 26, 20, 0, 56, 3, []), (26, 27, 2, 0, 0, 0, []), (27, 30, 24, 0, 1, 8, []), (30, 31, 1, 0, 2, 0, []), (31, 32, 2, 0, 1, 0, []), (32, 35, 24, 0, 1, 8, []), (35, 36, 1, 0, 2, 0, []), (36, 37, 26, 0, 0, 0, []), (37, 38, 27, 0, 0, 0, []), (38, 39, 2, 0, 0, 0, []), (39, 42, 24, 0, 2, 8, []), (42, 43, 1, 0, 2, 0, []), (43, 44, 2, 0, 1, 0, []), (44, 47, 24, 0, 2, 8, []), (47, 48, 1, 0, 2, 0, []), (48, 49, 26, 0, 0, 0, []), (49, 50, 27, 0, 0, 0, []), (50, 53, 7, 1, 2, 0, []), (53, 56, 18, 0, 18, 0, []), (56, 57, 37, 0, 0, 0, [])]
set_option maxRecDepth 100000 in
theorem ok88 : k88.all (chk 88 (qbt 88) (qow 88)) = true := by decide +kernel
/-- ClayBoots$Walk.asks(IIII)I -/
def k89 : List En := [(0, 1, 2, 0, 0, 0, []), (1, 4, 24, 0, 0, 9, []), (4, 5, 1, 0, 2, 0, []), (5, 8, 44, 0, 57, 2, [(0, 6)]), (8, 11, 19, 0, 13, 1, []), (11, 12, 0, 0, 0, 0, []), (12, 13, 34, 0, 0, 0, []), (13, 14, 2, 0, 0, 0, []), (14, 17, 24, 0, 4, 9, []), (17, 18, 0, 0, 0, 0, []), (18, 19, 2, 0, 0, 0, []), (19, 22, 24, 0, 0, 9, []), (22, 25, 24, 0, 13, 6, []), (25, 26, 1, 0, 2, 0, []), (26, 27, 26, 0, 0, 0, []), (27, 28, 27, 0, 0, 0, []), (28, 29, 2, 0, 0, 0, []), (29, 32, 24, 0, 4, 9, []), (32, 33, 0, 1, 0, 0, []), (33, 34, 2, 0, 0, 0, []), (34, 37, 24, 0, 0, 9, []), (37, 40, 24, 0, 14, 6, []), (40, 41, 1, 0, 2, 0, []), (41, 42, 26, 0, 0, 0, []), (42, 43, 27, 0, 0, 0, []), (43, 44, 2, 0, 0, 0, []), (44, 47, 24, 0, 4, 9, []), (47, 48, 0, 2, 0, 0, []), (48, 49, 2, 0, 0, 0, []), (49, 52, 24, 0, 0, 9, []), (52, 53, 1, 0, 3, 0, []), (53, 56, 44, 0, 55, 2, [(0, 6)]), (56, 59, 19, 0, 71, 0, []), (59, 60, 2, 0, 0, 0, []), (60, 63, 24, 0, 0, 9, []), (63, 66, 24, 0, 8, 6, []), (66, 67, 1, 0, 3, 0, []), (67, 68, 26, 0, 0, 0, []), (68, 71, 18, 0, 72, 0, []), (71, 72, 0, 0, 0, 0, []), (72, 73, 27, 0, 0, 0, []), (73, 74, 2, 0, 0, 0, []), (74, 77, 24, 0, 4, 9, []), (77, 78, 0, 3, 0, 0, []), (78, 79, 2, 0, 0, 0, []), (79, 82, 24, 0, 0, 9, []), (82, 83, 1, 0, 3, 0, []), (83, 86, 44, 0, 55, 2, [(0, 6)]), (86, 89, 19, 0, 101, 0, []), (89, 90, 2, 0, 0, 0, []), (90, 93, 24, 0, 0, 9, []), (93, 96, 24, 0, 9, 6, []), (96, 97, 1, 0, 3, 0, []), (97, 98, 26, 0, 0, 0, []), (98, 101, 18, 0, 102, 0, []), (101, 102, 0, 0, 0, 0, []), (102, 103, 27, 0, 0, 0, []), (103, 104, 2, 0, 0, 0, []), (104, 107, 24, 0, 4, 9, []), (107, 108, 0, 4, 0, 0, []), (108, 109, 2, 0, 0, 0, []), (109, 112, 24, 0, 0, 9, []), (112, 113, 1, 0, 2, 0, []), (113, 116, 44, 0, 63, 2, [(0, 6)]), (116, 117, 27, 0, 0, 0, []), (117, 118, 2, 0, 0, 0, []), (118, 121, 24, 0, 4, 9, []), (121, 122, 0, 5, 0, 0, []), (122, 123, 2, 0, 0, 0, []), (123, 126, 24, 0, 0, 9, []), (126, 129, 24, 0, 1, 6, []), (129, 130, 27, 0, 0, 0, []), (130, 131, 2, 0, 0, 0, []), (131, 134, 24, 0, 4, 9, []), (134, 136, 0, 6, 0, 0, []), (136, 137, 2, 0, 0, 0, []), (137, 140, 24, 0, 0, 9, []), (140, 143, 24, 0, 2, 6, []), (143, 144, 27, 0, 0, 0, []), (144, 145, 2, 0, 0, 0, []), (145, 148, 24, 0, 4, 9, []), (148, 150, 0, 7, 0, 0, []), (150, 151, 2, 0, 0, 0, []), (151, 154, 24, 0, 0, 9, []), (154, 156, 1, 0, 4, 0, []), (156, 159, 44, 0, 56, 2, [(0, 6)]), (159, 162, 19, 0, 175, 0, []), (162, 163, 2, 0, 0, 0, []), (163, 166, 24, 0, 0, 9, []), (166, 169, 24, 0, 10, 6, []), (169, 171, 1, 0, 4, 0, []), (171, 172, 26, 0, 0, 0, []), (172, 175, 18, 0, 176, 0, []), (175, 176, 0, 0, 0, 0, []), (176, 177, 27, 0, 0, 0, []), (177, 178, 2, 0, 0, 0, []), (178, 181, 24, 0, 4, 9, []), (181, 183, 0, 8, 0, 0, []), (183, 184, 2, 0, 0, 0, []), (184, 187, 24, 0, 0, 9, []), (187, 190, 24, 0, 15, 6, []), (190, 191, 1, 0, 2, 0, []), (191, 192, 26, 0, 0, 0, []), (192, 193, 27, 0, 0, 0, []), (193, 194, 2, 0, 0, 0, []), (194, 197, 24, 0, 4, 9, []), (197, 199, 0, 9, 0, 0, []), (199, 200, 2, 0, 0, 0, []), (200, 203, 24, 0, 0, 9, []), (203, 206, 24, 0, 4, 6, []), (206, 207, 27, 0, 0, 0, []), (207, 208, 1, 0, 1, 0, []), (208, 211, 0, 10010, 0, 0, []), (211, 214, 20, 0, 219, 1, []), (214, 216, 0, 99, 0, 0, []), (216, 219, 18, 0, 222, 0, []), (219, 222, 0, 1000, 0, 0, []), (222, 224, 4, 0, 5, 0, []), (224, 225, 0, 0, 0, 0, []), (225, 227, 1, 0, 5, 0, []), (227, 228, 2, 0, 0, 0, []), (228, 231, 24, 0, 1, 9, []), (231, 232, 1, 0, 1, 0, []), (232, 233, 2, 0, 0, 0, []), (233, 236, 24, 0, 4, 9, []), (236, 239, 44, 0, 5, 3, [(0, 2)]), (239, 242, 39, 0, 1, 0, []), (242, 245, 39, 0, 0, 0, []), (245, 246, 34, 0, 0, 0, [])]
set_option maxRecDepth 100000 in
theorem ok89 : k89.all (chk 89 (qbt 89) (qow 89)) = true := by decide +kernel
/-- ClayBoots$Walk.visit(III)I -/
def k90 : List En := [(0, 1, 2, 0, 0, 0, []), (1, 4, 24, 0, 0, 9, []), (4, 5, 1, 0, 1, 0, []), (5, 8, 44, 0, 57, 2, [(0, 6)]), (8, 11, 19, 0, 22, 0, []), (11, 12, 2, 0, 0, 0, []), (12, 15, 24, 0, 0, 9, []), (15, 16, 1, 0, 3, 0, []), (16, 19, 44, 0, 56, 2, [(0, 6)]), (19, 22, 19, 0, 24, 1, []), (22, 23, 0, 0, 0, 0, []), (23, 24, 34, 0, 0, 0, []), (24, 25, 1, 0, 2, 0, []), (25, 28, 38, 0, 149, 1, []), (28, 30, 0, 10, 0, 0, []), (30, 31, 9, 0, 0, 0, []), (31, 33, 4, 0, 4, 0, []), (33, 35, 1, 0, 4, 0, []), (35, 38, 19, 0, 60, 5, []), (38, 39, 2, 0, 0, 0, []), (39, 40, 1, 0, 1, 0, []), (40, 41, 1, 0, 2, 0, []), (41, 43, 1, 0, 4, 0, []), (43, 44, 9, 0, 0, 0, []), (44, 46, 0, 10, 0, 0, []), (46, 47, 10, 0, 0, 0, []), (47, 50, 44, 0, 91, 3, [(0, 9)]), (50, 52, 1, 0, 4, 0, []), (52, 54, 0, 10, 0, 0, []), (54, 55, 9, 0, 0, 0, []), (55, 57, 4, 0, 4, 0, []), (57, 60, 18, 0, 33, 0, []), (60, 61, 2, 0, 0, 0, []), (61, 62, 2, 0, 0, 0, []), (62, 63, 1, 0, 1, 0, []), (63, 64, 1, 0, 3, 0, []), (64, 67, 44, 0, 92, 3, [(0, 9)]), (67, 70, 19, 0, 78, 0, []), (70, 71, 2, 0, 0, 0, []), (71, 72, 1, 0, 3, 0, []), (72, 75, 44, 0, 93, 2, [(0, 9)]), (75, 78, 18, 0, 79, 0, []), (78, 79, 1, 0, 3, 0, []), (79, 82, 25, 0, 5, 9, []), (82, 83, 2, 0, 0, 0, []), (83, 84, 1, 0, 1, 0, []), (84, 85, 2, 0, 0, 0, []), (85, 88, 24, 0, 5, 9, []), (88, 91, 44, 0, 94, 3, [(0, 9)]), (91, 93, 4, 0, 4, 0, []), (93, 94, 2, 0, 0, 0, []), (94, 97, 24, 0, 0, 9, []), (97, 100, 24, 0, 15, 6, []), (100, 101, 1, 0, 1, 0, []), (101, 102, 16, 0, 0, 0, []), (102, 103, 26, 0, 0, 0, []), (103, 104, 0, 1, 0, 0, []), (104, 105, 8, 0, 0, 0, []), (105, 106, 27, 0, 0, 0, []), (106, 107, 2, 0, 0, 0, []), (107, 110, 24, 0, 3, 9, []), (110, 113, 19, 0, 162, 1, []), (113, 114, 2, 0, 0, 0, []), (114, 117, 24, 0, 0, 9, []), (117, 120, 24, 0, 17, 6, []), (120, 121, 2, 0, 0, 0, []), (121, 124, 24, 0, 0, 9, []), (124, 127, 24, 0, 4, 6, []), (127, 128, 0, 0, 0, 0, []), (128, 129, 1, 0, 1, 0, []), (129, 130, 2, 0, 0, 0, []), (130, 133, 24, 0, 5, 9, []), (133, 136, 44, 0, 0, 5, [(0, 0)]), (136, 138, 1, 0, 4, 0, []), (138, 141, 19, 0, 162, 5, []), (141, 142, 2, 0, 0, 0, []), (142, 145, 24, 0, 0, 9, []), (145, 148, 24, 0, 17, 6, []), (148, 149, 2, 0, 0, 0, []), (149, 152, 24, 0, 0, 9, []), (152, 155, 24, 0, 4, 6, []), (155, 156, 0, 1, 0, 0, []), (156, 157, 1, 0, 1, 0, []), (157, 159, 1, 0, 4, 0, []), (159, 162, 44, 0, 0, 5, [(0, 0)]), (162, 164, 1, 0, 4, 0, []), (164, 165, 34, 0, 0, 0, [])]
set_option maxRecDepth 100000 in
theorem ok90 : k90.all (chk 90 (qbt 90) (qow 90)) = true := by decide +kernel
/-- ClayBoots$Walk.takeUp(II)V -/
def k91 : List En := [(0, 1, 2, 0, 0, 0, []), (1, 4, 24, 0, 0, 9, []), (4, 5, 1, 0, 2, 0, []), (5, 8, 44, 0, 55, 2, [(0, 6)]), (8, 11, 19, 0, 22, 0, []), (11, 12, 2, 0, 0, 0, []), (12, 15, 24, 0, 0, 9, []), (15, 16, 1, 0, 1, 0, []), (16, 19, 44, 0, 57, 2, [(0, 6)]), (19, 22, 19, 0, 23, 1, []), (22, 23, 37, 0, 0, 0, []), (23, 25, 0, 10, 0, 0, []), (25, 26, 2, 0, 0, 0, []), (26, 29, 24, 0, 0, 9, []), (29, 32, 24, 0, 13, 6, []), (32, 33, 1, 0, 1, 0, []), (33, 34, 26, 0, 0, 0, []), (34, 35, 8, 0, 2, 0, []), (35, 36, 2, 0, 0, 0, []), (36, 39, 24, 0, 0, 9, []), (39, 40, 1, 0, 1, 0, []), (40, 43, 44, 0, 63, 2, [(0, 6)]), (43, 44, 8, 0, 1, 0, []), (44, 45, 4, 0, 3, 0, []), (45, 46, 2, 0, 0, 0, []), (46, 49, 0, 10010, 0, 0, []), (49, 50, 1, 0, 1, 0, []), (50, 51, 1, 0, 2, 0, []), (51, 52, 0, -1, 0, 0, []), (52, 55, 44, 0, 89, 5, [(0, 9)]), (55, 56, 2, 0, 0, 0, []), (56, 59, 24, 0, 0, 9, []), (59, 62, 24, 0, 9, 6, []), (62, 63, 1, 0, 2, 0, []), (63, 64, 26, 0, 0, 0, []), (64, 65, 1, 0, 3, 0, []), (65, 68, 39, 0, 1, 0, []), (68, 71, 39, 0, 1, 0, []), (71, 73, 4, 0, 4, 0, []), (73, 74, 2, 0, 0, 0, []), (74, 77, 24, 0, 0, 9, []), (77, 80, 24, 0, 9, 6, []), (80, 81, 1, 0, 2, 0, []), (81, 82, 16, 0, 0, 0, []), (82, 83, 26, 0, 0, 0, []), (83, 85, 1, 0, 4, 0, []), (85, 86, 8, 0, 1, 0, []), (86, 87, 27, 0, 0, 0, []), (87, 88, 2, 0, 0, 0, []), (88, 91, 24, 0, 0, 9, []), (91, 94, 24, 0, 16, 6, []), (94, 95, 1, 0, 1, 0, []), (95, 97, 0, 10, 0, 0, []), (97, 98, 8, 0, 2, 0, []), (98, 99, 1, 0, 2, 0, []), (99, 100, 8, 0, 0, 0, []), (100, 101, 16, 0, 0, 0, []), (101, 102, 26, 0, 0, 0, []), (102, 104, 1, 0, 4, 0, []), (104, 105, 8, 0, 0, 0, []), (105, 106, 27, 0, 0, 0, []), (106, 107, 37, 0, 0, 0, [])]
set_option maxRecDepth 100000 in
theorem ok91 : k91.all (chk 91 (qbt 91) (qow 91)) = true := by decide +kernel
/-- ClayBoots$Walk.straysFrom(II)Z -/
def k92 : List En := [(0, 1, 2, 0, 0, 0, []), (1, 4, 0, 10012, 0, 0, []), (4, 5, 1, 0, 1, 0, []), (5, 6, 0, -1, 0, 0, []), (6, 7, 1, 0, 2, 0, []), (7, 10, 44, 0, 89, 5, [(0, 9)]), (10, 11, 4, 0, 3, 0, []), (11, 12, 2, 0, 0, 0, []), (12, 15, 24, 0, 3, 9, []), (15, 18, 19, 0, 31, 0, []), (18, 19, 1, 0, 3, 0, []), (19, 22, 0, 500, 0, 0, []), (22, 25, 20, 0, 29, 2, []), (25, 26, 0, 1, 0, 0, []), (26, 29, 18, 0, 30, 0, []), (29, 30, 0, 0, 0, 0, []), (30, 31, 35, 0, 0, 0, []), (31, 32, 1, 0, 3, 0, []), (32, 35, 19, 0, 37, 1, []), (35, 36, 0, 0, 0, 0, []), (36, 37, 35, 0, 0, 0, []), (37, 38, 2, 0, 0, 0, []), (38, 41, 24, 0, 0, 9, []), (41, 42, 2, 0, 0, 0, []), (42, 45, 24, 0, 0, 9, []), (45, 48, 24, 0, 0, 6, []), (48, 51, 38, 0, 147, 1, []), (51, 54, 25, 0, 0, 6, []), (54, 55, 2, 0, 0, 0, []), (55, 58, 24, 0, 0, 9, []), (58, 61, 24, 0, 0, 6, []), (61, 64, 0, 1000, 0, 0, []), (64, 67, 38, 0, 148, 2, []), (67, 68, 1, 0, 3, 0, []), (68, 71, 20, 0, 75, 3, []), (71, 72, 0, 1, 0, 0, []), (72, 75, 18, 0, 76, 0, []), (75, 76, 0, 0, 0, 0, []), (76, 77, 35, 0, 0, 0, [])]
set_option maxRecDepth 100000 in
theorem ok92 : k92.all (chk 92 (qbt 92) (qow 92)) = true := by decide +kernel
/-- ClayBoots$Walk.nextDoor(I)I -/
def k93 : List En := [(0, 1, 2, 0, 0, 0, []), (1, 4, 24, 0, 0, 9, []), (4, 5, 1, 0, 1, 0, []), (5, 6, 0, 1, 0, 0, []), (6, 7, 8, 0, 0, 0, []), (7, 10, 44, 0, 56, 2, [(0, 6)]), (10, 13, 19, 0, 19, 0, []), (13, 14, 1, 0, 1, 0, []), (14, 15, 0, 1, 0, 0, []), (15, 16, 8, 0, 0, 0, []), (16, 19, 18, 0, 20, 0, []), (19, 20, 0, 0, 0, 0, []), (20, 21, 34, 0, 0, 0, [])]
set_option maxRecDepth 100000 in
theorem ok93 : k93.all (chk 93 (qbt 93) (qow 93)) = true := by decide +kernel
/-- ClayBoots$Walk.leaveAt(II)I -/
def k94 : List En := [(0, 1, 2, 0, 0, 0, []), (1, 4, 24, 0, 0, 9, []), (4, 5, 1, 0, 1, 0, []), (5, 8, 44, 0, 57, 2, [(0, 6)]), (8, 11, 19, 0, 46, 0, []), (11, 12, 2, 0, 0, 0, []), (12, 15, 24, 0, 0, 9, []), (15, 16, 1, 0, 2, 0, []), (16, 19, 44, 0, 56, 2, [(0, 6)]), (19, 22, 19, 0, 46, 0, []), (22, 23, 2, 0, 0, 0, []), (23, 26, 24, 0, 0, 9, []), (26, 29, 24, 0, 2, 6, []), (29, 30, 0, 1, 0, 0, []), (30, 33, 20, 0, 46, 0, []), (33, 34, 2, 0, 0, 0, []), (34, 37, 24, 0, 0, 9, []), (37, 40, 24, 0, 10, 6, []), (40, 41, 1, 0, 2, 0, []), (41, 42, 26, 0, 0, 0, []), (42, 43, 0, 1, 0, 0, []), (43, 46, 20, 0, 48, 1, []), (46, 47, 0, 0, 0, 0, []), (47, 48, 34, 0, 0, 0, []), (48, 49, 0, 0, 0, 0, []), (49, 50, 4, 0, 3, 0, []), (50, 51, 0, 0, 0, 0, []), (51, 53, 4, 0, 4, 0, []), (53, 55, 1, 0, 4, 0, []), (55, 57, 0, 10, 0, 0, []), (57, 60, 20, 0, 153, 3, []), (60, 61, 2, 0, 0, 0, []), (61, 64, 24, 0, 0, 9, []), (64, 67, 24, 0, 16, 6, []), (67, 68, 1, 0, 1, 0, []), (68, 70, 0, 10, 0, 0, []), (70, 71, 8, 0, 2, 0, []), (71, 73, 1, 0, 4, 0, []), (73, 74, 8, 0, 0, 0, []), (74, 75, 26, 0, 0, 0, []), (75, 77, 4, 0, 5, 0, []), (77, 79, 1, 0, 5, 0, []), (79, 82, 19, 0, 147, 5, []), (82, 84, 1, 0, 5, 0, []), (84, 85, 2, 0, 0, 0, []), (85, 88, 0, 10011, 0, 0, []), (88, 89, 1, 0, 1, 0, []), (89, 91, 1, 0, 4, 0, []), (91, 92, 1, 0, 2, 0, []), (92, 95, 44, 0, 89, 5, [(0, 9)]), (95, 96, 8, 0, 2, 0, []), (96, 99, 0, 1000, 0, 0, []), (99, 100, 9, 0, 0, 0, []), (100, 102, 4, 0, 6, 0, []), (102, 103, 2, 0, 0, 0, []), (103, 106, 24, 0, 0, 9, []), (106, 109, 24, 0, 16, 6, []), (109, 110, 1, 0, 1, 0, []), (110, 112, 0, 10, 0, 0, []), (112, 113, 8, 0, 2, 0, []), (113, 115, 1, 0, 4, 0, []), (115, 116, 8, 0, 0, 0, []), (116, 117, 16, 0, 0, 0, []), (117, 118, 26, 0, 0, 0, []), (118, 120, 1, 0, 6, 0, []), (120, 121, 8, 0, 1, 0, []), (121, 122, 27, 0, 0, 0, []), (122, 123, 2, 0, 0, 0, []), (123, 126, 24, 0, 0, 9, []), (126, 129, 24, 0, 11, 6, []), (129, 130, 1, 0, 2, 0, []), (130, 132, 0, 10, 0, 0, []), (132, 133, 8, 0, 2, 0, []), (133, 135, 1, 0, 4, 0, []), (135, 136, 8, 0, 0, 0, []), (136, 137, 16, 0, 0, 0, []), (137, 138, 26, 0, 0, 0, []), (138, 140, 1, 0, 6, 0, []), (140, 141, 8, 0, 0, 0, []), (141, 142, 27, 0, 0, 0, []), (142, 143, 1, 0, 3, 0, []), (143, 145, 1, 0, 6, 0, []), (145, 146, 8, 0, 0, 0, []), (146, 147, 4, 0, 3, 0, []), (147, 150, 7, 1, 4, 0, []), (150, 153, 18, 0, 53, 0, []), (153, 154, 2, 0, 0, 0, []), (154, 157, 24, 0, 0, 9, []), (157, 158, 15, 0, 0, 0, []), (158, 161, 24, 0, 3, 6, []), (161, 162, 1, 0, 3, 0, []), (162, 163, 8, 0, 0, 0, []), (163, 166, 25, 0, 3, 6, []), (166, 167, 1, 0, 3, 0, []), (167, 168, 34, 0, 0, 0, [])]
set_option maxRecDepth 100000 in
theorem ok94 : k94.all (chk 94 (qbt 94) (qow 94)) = true := by decide +kernel
/-- ClayBoots$Walk.passDay()I -/
def k95 : List En := [(0, 1, 2, 0, 0, 0, []), (1, 4, 24, 0, 2, 9, []), (4, 5, 2, 0, 0, 0, []), (5, 8, 24, 0, 0, 9, []), (8, 11, 44, 0, 16, 2, [(0, 4)]), (11, 12, 0, 0, 0, 0, []), (12, 13, 4, 0, 1, 0, []), (13, 14, 0, 0, 0, 0, []), (14, 15, 4, 0, 2, 0, []), (15, 16, 1, 0, 2, 0, []), (16, 17, 2, 0, 0, 0, []), (17, 20, 24, 0, 2, 9, []), (20, 23, 24, 0, 0, 4, []), (23, 26, 20, 0, 92, 3, []), (26, 27, 1, 0, 2, 0, []), (27, 29, 0, 16, 0, 0, []), (29, 32, 20, 0, 92, 3, []), (32, 33, 2, 0, 0, 0, []), (33, 36, 24, 0, 2, 9, []), (36, 39, 24, 0, 3, 4, []), (39, 40, 1, 0, 2, 0, []), (40, 41, 26, 0, 0, 0, []), (41, 42, 2, 0, 0, 0, []), (42, 45, 24, 0, 0, 9, []), (45, 48, 24, 0, 4, 6, []), (48, 51, 20, 0, 86, 1, []), (51, 52, 2, 0, 0, 0, []), (52, 53, 2, 0, 0, 0, []), (53, 56, 24, 0, 2, 9, []), (56, 59, 24, 0, 4, 4, []), (59, 60, 1, 0, 2, 0, []), (60, 61, 26, 0, 0, 0, []), (61, 62, 2, 0, 0, 0, []), (62, 65, 24, 0, 2, 9, []), (65, 68, 24, 0, 5, 4, []), (68, 69, 1, 0, 2, 0, []), (69, 70, 26, 0, 0, 0, []), (70, 71, 2, 0, 0, 0, []), (71, 74, 24, 0, 2, 9, []), (74, 77, 24, 0, 6, 4, []), (77, 78, 1, 0, 2, 0, []), (78, 79, 26, 0, 0, 0, []), (79, 82, 44, 0, 90, 4, [(0, 9)]), (82, 83, 17, 0, 0, 0, []), (83, 86, 7, 1, 1, 0, []), (86, 89, 7, 1, 2, 0, []), (89, 92, 18, 0, 15, 0, []), (92, 93, 0, 0, 0, 0, []), (93, 94, 4, 0, 2, 0, []), (94, 95, 1, 0, 2, 0, []), (95, 96, 2, 0, 0, 0, []), (96, 99, 24, 0, 0, 9, []), (99, 102, 24, 0, 7, 6, []), (102, 105, 20, 0, 126, 3, []), (105, 106, 2, 0, 0, 0, []), (106, 109, 24, 0, 0, 9, []), (109, 112, 24, 0, 2, 6, []), (112, 115, 19, 0, 126, 1, []), (115, 116, 2, 0, 0, 0, []), (116, 117, 1, 0, 2, 0, []), (117, 120, 44, 0, 96, 2, [(0, 9)]), (120, 123, 7, 1, 2, 0, []), (123, 126, 18, 0, 94, 0, []), (126, 127, 2, 0, 0, 0, []), (127, 130, 24, 0, 0, 9, []), (130, 131, 15, 0, 0, 0, []), (131, 134, 24, 0, 4, 6, []), (134, 135, 0, 1, 0, 0, []), (135, 136, 8, 0, 0, 0, []), (136, 139, 25, 0, 4, 6, []), (139, 140, 1, 0, 1, 0, []), (140, 141, 34, 0, 0, 0, [])]
set_option maxRecDepth 100000 in
theorem ok95 : k95.all (chk 95 (qbt 95) (qow 95)) = true := by decide +kernel
/-- ClayBoots$Walk.dropAtHome(I)V -/
def k96 : List En := [(0, 1, 2, 0, 0, 0, []), (1, 4, 24, 0, 0, 9, []), (4, 5, 1, 0, 1, 0, []), (5, 8, 44, 0, 57, 2, [(0, 6)]), (8, 11, 19, 0, 23, 0, []), (11, 12, 2, 0, 0, 0, []), (12, 15, 24, 0, 0, 9, []), (15, 18, 24, 0, 12, 6, []), (18, 19, 1, 0, 1, 0, []), (19, 20, 26, 0, 0, 0, []), (20, 23, 18, 0, 24, 0, []), (23, 24, 0, -1, 0, 0, []), (24, 25, 4, 0, 2, 0, []), (25, 26, 2, 0, 0, 0, []), (26, 29, 24, 0, 0, 9, []), (29, 30, 1, 0, 2, 0, []), (30, 33, 44, 0, 56, 2, [(0, 6)]), (33, 36, 19, 0, 37, 1, []), (36, 37, 37, 0, 0, 0, []), (37, 38, 0, 0, 0, 0, []), (38, 39, 4, 0, 3, 0, []), (39, 40, 0, 0, 0, 0, []), (40, 42, 4, 0, 4, 0, []), (42, 44, 1, 0, 4, 0, []), (44, 46, 0, 10, 0, 0, []), (46, 49, 20, 0, 146, 3, []), (49, 50, 2, 0, 0, 0, []), (50, 53, 24, 0, 0, 9, []), (53, 56, 24, 0, 16, 6, []), (56, 57, 1, 0, 1, 0, []), (57, 59, 0, 10, 0, 0, []), (59, 60, 8, 0, 2, 0, []), (60, 62, 1, 0, 4, 0, []), (62, 63, 8, 0, 0, 0, []), (63, 64, 26, 0, 0, 0, []), (64, 65, 0, 2, 0, 0, []), (65, 66, 9, 0, 0, 0, []), (66, 68, 4, 0, 5, 0, []), (68, 69, 2, 0, 0, 0, []), (69, 72, 24, 0, 0, 9, []), (72, 75, 24, 0, 16, 6, []), (75, 76, 1, 0, 1, 0, []), (76, 78, 0, 10, 0, 0, []), (78, 79, 8, 0, 2, 0, []), (79, 81, 1, 0, 4, 0, []), (81, 82, 8, 0, 0, 0, []), (82, 83, 16, 0, 0, 0, []), (83, 84, 26, 0, 0, 0, []), (84, 86, 1, 0, 5, 0, []), (86, 87, 8, 0, 1, 0, []), (87, 88, 27, 0, 0, 0, []), (88, 89, 2, 0, 0, 0, []), (89, 92, 24, 0, 0, 9, []), (92, 95, 24, 0, 10, 6, []), (95, 96, 1, 0, 2, 0, []), (96, 97, 26, 0, 0, 0, []), (97, 98, 0, 1, 0, 0, []), (98, 101, 20, 0, 115, 1, []), (101, 102, 2, 0, 0, 0, []), (102, 105, 24, 0, 0, 9, []), (105, 107, 1, 0, 4, 0, []), (107, 109, 1, 0, 5, 0, []), (109, 112, 44, 0, 70, 3, [(0, 6)]), (112, 115, 18, 0, 135, 0, []), (115, 116, 2, 0, 0, 0, []), (116, 119, 24, 0, 0, 9, []), (119, 122, 24, 0, 11, 6, []), (122, 123, 1, 0, 2, 0, []), (123, 125, 0, 10, 0, 0, []), (125, 126, 8, 0, 2, 0, []), (126, 128, 1, 0, 4, 0, []), (128, 129, 8, 0, 0, 0, []), (129, 130, 16, 0, 0, 0, []), (130, 131, 26, 0, 0, 0, []), (131, 133, 1, 0, 5, 0, []), (133, 134, 8, 0, 0, 0, []), (134, 135, 27, 0, 0, 0, []), (135, 136, 1, 0, 3, 0, []), (136, 138, 1, 0, 5, 0, []), (138, 139, 8, 0, 0, 0, []), (139, 140, 4, 0, 3, 0, []), (140, 143, 7, 1, 4, 0, []), (143, 146, 18, 0, 42, 0, []), (146, 147, 1, 0, 3, 0, []), (147, 150, 19, 0, 177, 5, []), (150, 151, 2, 0, 0, 0, []), (151, 154, 24, 0, 3, 9, []), (154, 157, 19, 0, 177, 1, []), (157, 158, 2, 0, 0, 0, []), (158, 161, 24, 0, 0, 9, []), (161, 164, 24, 0, 17, 6, []), (164, 165, 2, 0, 0, 0, []), (165, 168, 24, 0, 0, 9, []), (168, 171, 24, 0, 4, 6, []), (171, 172, 0, 2, 0, 0, []), (172, 173, 1, 0, 1, 0, []), (173, 174, 1, 0, 3, 0, []), (174, 177, 44, 0, 0, 5, [(0, 0)]), (177, 178, 37, 0, 0, 0, [])]
set_option maxRecDepth 100000 in
theorem ok96 : k96.all (chk 96 (qbt 96) (qow 96)) = true := by decide +kernel
/-- ClayBoots$Walk.sweep(I)V -/
def k97 : List En := [(0, 1, 2, 0, 0, 0, []), (1, 4, 24, 0, 0, 9, []), (4, 5, 1, 0, 1, 0, []), (5, 8, 44, 0, 56, 2, [(0, 6)]), (8, 11, 19, 0, 12, 1, []), (11, 12, 37, 0, 0, 0, []), (12, 13, 2, 0, 0, 0, []), (13, 16, 24, 0, 0, 9, []), (16, 17, 1, 0, 1, 0, []), (17, 20, 44, 0, 65, 2, [(0, 6)]), (20, 21, 4, 0, 2, 0, []), (21, 22, 0, 0, 0, 0, []), (22, 23, 4, 0, 3, 0, []), (23, 24, 1, 0, 3, 0, []), (24, 26, 0, 10, 0, 0, []), (26, 29, 20, 0, 72, 3, []), (29, 30, 2, 0, 0, 0, []), (30, 33, 24, 0, 0, 9, []), (33, 34, 1, 0, 3, 0, []), (34, 35, 2, 0, 0, 0, []), (35, 38, 24, 0, 0, 9, []), (38, 41, 24, 0, 11, 6, []), (41, 42, 1, 0, 1, 0, []), (42, 44, 0, 10, 0, 0, []), (44, 45, 8, 0, 2, 0, []), (45, 46, 1, 0, 3, 0, []), (46, 47, 8, 0, 0, 0, []), (47, 48, 26, 0, 0, 0, []), (48, 51, 44, 0, 70, 3, [(0, 6)]), (51, 52, 2, 0, 0, 0, []), (52, 55, 24, 0, 0, 9, []), (55, 58, 24, 0, 11, 6, []), (58, 59, 1, 0, 1, 0, []), (59, 61, 0, 10, 0, 0, []), (61, 62, 8, 0, 2, 0, []), (62, 63, 1, 0, 3, 0, []), (63, 64, 8, 0, 0, 0, []), (64, 65, 0, 0, 0, 0, []), (65, 66, 27, 0, 0, 0, []), (66, 69, 7, 1, 3, 0, []), (69, 72, 18, 0, 23, 0, []), (72, 73, 2, 0, 0, 0, []), (73, 76, 24, 0, 0, 9, []), (76, 79, 24, 0, 17, 6, []), (79, 80, 2, 0, 0, 0, []), (80, 83, 24, 0, 0, 9, []), (83, 86, 24, 0, 4, 6, []), (86, 87, 0, 3, 0, 0, []), (87, 88, 1, 0, 1, 0, []), (88, 89, 1, 0, 2, 0, []), (89, 92, 44, 0, 0, 5, [(0, 0)]), (92, 93, 37, 0, 0, 0, [])]
set_option maxRecDepth 100000 in
theorem ok97 : k97.all (chk 97 (qbt 97) (qow 97)) = true := by decide +kernel
/-- ClayBoots.state(I)I -/
def k98 : List En := [(0, 1, 2, 0, 0, 0, []), (1, 4, 24, 0, 0, 10, []), (4, 7, 24, 0, 0, 6, []), (7, 8, 4, 0, 2, 0, []), (8, 9, 2, 0, 0, 0, []), (9, 12, 24, 0, 8, 10, []), (12, 15, 44, 0, 10, 1, [(0, 3)]), (15, 16, 2, 0, 0, 0, []), (16, 19, 24, 0, 0, 10, []), (19, 20, 1, 0, 1, 0, []), (20, 23, 25, 0, 0, 6, []), (23, 24, 1, 0, 2, 0, []), (24, 25, 34, 0, 0, 0, [])]
set_option maxRecDepth 100000 in
theorem ok98 : k98.all (chk 98 (qbt 98) (qow 98)) = true := by decide +kernel
/-- ClayBoots.field(II)I -/
def k99 : List En := [(0, 1, 1, 0, 1, 0, []), (1, 2, 0, 0, 0, 0, []), (2, 3, 0, 5, 0, 0, []), (3, 6, 38, 0, 146, 3, []), (6, 9, 19, 0, 32, 0, []), (9, 10, 1, 0, 2, 0, []), (10, 11, 0, 0, 0, 0, []), (11, 14, 0, 9999, 0, 0, []), (14, 17, 38, 0, 146, 3, []), (17, 20, 19, 0, 32, 0, []), (20, 21, 2, 0, 0, 0, []), (21, 24, 24, 0, 0, 10, []), (24, 27, 24, 0, 5, 6, []), (27, 29, 0, 10, 0, 0, []), (29, 32, 20, 0, 34, 2, []), (32, 33, 0, -1, 0, 0, []), (33, 34, 34, 0, 0, 0, []), (34, 35, 2, 0, 0, 0, []), (35, 38, 24, 0, 8, 10, []), (38, 41, 44, 0, 10, 1, [(0, 3)]), (41, 42, 2, 0, 0, 0, []), (42, 45, 24, 0, 0, 10, []), (45, 46, 1, 0, 1, 0, []), (46, 47, 1, 0, 2, 0, []), (47, 50, 44, 0, 60, 3, [(0, 6)]), (50, 51, 34, 0, 0, 0, [])]
set_option maxRecDepth 100000 in
theorem ok99 : k99.all (chk 99 (qbt 99) (qow 99)) = true := by decide +kernel
/-- ClayBoots.door(Z)I -/
def k100 : List En := [(0, 1, 2, 0, 0, 0, []), (1, 4, 24, 0, 0, 10, []), (4, 7, 24, 0, 6, 6, []), (7, 9, 0, 8, 0, 0, []), (9, 12, 20, 0, 14, 2, []), (12, 13, 0, -1, 0, 0, []), (13, 14, 34, 0, 0, 0, []), (14, 15, 2, 0, 0, 0, []), (15, 18, 24, 0, 8, 10, []), (18, 21, 44, 0, 10, 1, [(0, 3)]), (21, 22, 2, 0, 0, 0, []), (22, 25, 24, 0, 0, 10, []), (25, 26, 1, 0, 1, 0, []), (26, 29, 44, 0, 61, 2, [(0, 6)]), (29, 30, 34, 0, 0, 0, [])]
set_option maxRecDepth 100000 in
theorem ok100 : k100.all (chk 100 (qbt 100) (qow 100)) = true := by decide +kernel
/-- ClayBoots.person(III)I -/
def k101 : List En := [(0, 1, 2, 0, 0, 0, []), (1, 4, 24, 0, 0, 10, []), (4, 5, 1, 0, 1, 0, []), (5, 8, 44, 0, 56, 2, [(0, 6)]), (8, 11, 19, 0, 43, 0, []), (11, 12, 1, 0, 2, 0, []), (12, 13, 0, 1, 0, 0, []), (13, 15, 0, 9, 0, 0, []), (15, 18, 38, 0, 146, 3, []), (18, 21, 19, 0, 43, 0, []), (21, 22, 1, 0, 3, 0, []), (22, 23, 0, 0, 0, 0, []), (23, 25, 0, 9, 0, 0, []), (25, 28, 38, 0, 146, 3, []), (28, 31, 19, 0, 43, 0, []), (31, 32, 2, 0, 0, 0, []), (32, 35, 24, 0, 0, 10, []), (35, 38, 24, 0, 7, 6, []), (38, 40, 0, 12, 0, 0, []), (40, 43, 20, 0, 45, 2, []), (43, 44, 0, -1, 0, 0, []), (44, 45, 34, 0, 0, 0, []), (45, 46, 2, 0, 0, 0, []), (46, 49, 24, 0, 8, 10, []), (49, 52, 44, 0, 10, 1, [(0, 3)]), (52, 53, 2, 0, 0, 0, []), (53, 56, 24, 0, 0, 10, []), (56, 57, 1, 0, 1, 0, []), (57, 58, 1, 0, 2, 0, []), (58, 59, 1, 0, 3, 0, []), (59, 62, 44, 0, 62, 4, [(0, 6)]), (62, 63, 34, 0, 0, 0, [])]
set_option maxRecDepth 100000 in
theorem ok101 : k101.all (chk 101 (qbt 101) (qow 101)) = true := by decide +kernel
/-- ClayBoots.set(III)Z -/
def k102 : List En := [(0, 1, 1, 0, 1, 0, []), (1, 4, 19, 0, 25, 1, []), (4, 5, 1, 0, 3, 0, []), (5, 6, 0, 0, 0, 0, []), (6, 8, 0, 9, 0, 0, []), (8, 11, 38, 0, 146, 3, []), (11, 14, 19, 0, 25, 0, []), (14, 15, 2, 0, 0, 0, []), (15, 18, 24, 0, 0, 10, []), (18, 19, 1, 0, 3, 0, []), (19, 22, 25, 0, 1, 6, []), (22, 25, 18, 0, 106, 0, []), (25, 26, 1, 0, 1, 0, []), (26, 27, 0, 1, 0, 0, []), (27, 30, 20, 0, 65, 1, []), (30, 31, 2, 0, 0, 0, []), (31, 34, 24, 0, 0, 10, []), (34, 35, 1, 0, 2, 0, []), (35, 38, 44, 0, 55, 2, [(0, 6)]), (38, 41, 19, 0, 65, 0, []), (41, 42, 1, 0, 3, 0, []), (42, 43, 0, 0, 0, 0, []), (43, 46, 0, 9999, 0, 0, []), (46, 49, 38, 0, 146, 3, []), (49, 52, 19, 0, 65, 0, []), (52, 53, 2, 0, 0, 0, []), (53, 56, 24, 0, 0, 10, []), (56, 59, 24, 0, 9, 6, []), (59, 60, 1, 0, 2, 0, []), (60, 61, 1, 0, 3, 0, []), (61, 62, 27, 0, 0, 0, []), (62, 65, 18, 0, 106, 0, []), (65, 66, 1, 0, 1, 0, []), (66, 67, 0, 2, 0, 0, []), (67, 70, 20, 0, 104, 1, []), (70, 71, 2, 0, 0, 0, []), (71, 74, 24, 0, 0, 10, []), (74, 75, 1, 0, 2, 0, []), (75, 78, 44, 0, 57, 2, [(0, 6)]), (78, 81, 19, 0, 104, 0, []), (81, 82, 1, 0, 3, 0, []), (82, 83, 0, 0, 0, 0, []), (83, 85, 0, 9, 0, 0, []), (85, 88, 38, 0, 146, 3, []), (88, 91, 19, 0, 104, 0, []), (91, 92, 2, 0, 0, 0, []), (92, 95, 24, 0, 0, 10, []), (95, 98, 24, 0, 14, 6, []), (98, 99, 1, 0, 2, 0, []), (99, 100, 1, 0, 3, 0, []), (100, 101, 27, 0, 0, 0, []), (101, 104, 18, 0, 106, 0, []), (104, 105, 0, 0, 0, 0, []), (105, 106, 35, 0, 0, 0, []), (106, 107, 2, 0, 0, 0, []), (107, 110, 24, 0, 8, 10, []), (110, 113, 44, 0, 10, 1, [(0, 3)]), (113, 114, 0, 1, 0, 0, []), (114, 115, 35, 0, 0, 0, [])]
set_option maxRecDepth 100000 in
theorem ok102 : k102.all (chk 102 (qbt 102) (qow 102)) = true := by decide +kernel
/-- ClayBoots.call(III)I -/
def k103 : List En := [(0, 1, 2, 0, 0, 0, []), (1, 4, 24, 0, 0, 10, []), (4, 5, 1, 0, 1, 0, []), (5, 8, 44, 0, 57, 2, [(0, 6)]), (8, 11, 19, 0, 33, 0, []), (11, 12, 2, 0, 0, 0, []), (12, 15, 24, 0, 0, 10, []), (15, 16, 1, 0, 3, 0, []), (16, 19, 44, 0, 56, 2, [(0, 6)]), (19, 22, 19, 0, 33, 0, []), (22, 23, 2, 0, 0, 0, []), (23, 26, 24, 0, 0, 10, []), (26, 27, 1, 0, 2, 0, []), (27, 30, 44, 0, 59, 2, [(0, 6)]), (30, 33, 19, 0, 35, 1, []), (33, 34, 0, -1, 0, 0, []), (34, 35, 34, 0, 0, 0, []), (35, 36, 2, 0, 0, 0, []), (36, 39, 24, 0, 8, 10, []), (39, 40, 2, 0, 0, 0, []), (40, 43, 24, 0, 0, 10, []), (43, 46, 44, 0, 8, 2, [(0, 3)]), (46, 47, 2, 0, 0, 0, []), (47, 50, 24, 0, 6, 10, []), (50, 51, 1, 0, 1, 0, []), (51, 52, 1, 0, 2, 0, []), (52, 53, 1, 0, 3, 0, []), (53, 56, 44, 0, 90, 4, [(0, 9)]), (56, 57, 34, 0, 0, 0, [])]
set_option maxRecDepth 100000 in
theorem ok103 : k103.all (chk 103 (qbt 103) (qow 103)) = true := by decide +kernel
/-- ClayBoots.act(II)Z -/
def k104 : List En := [(0, 1, 2, 0, 0, 0, []), (1, 2, 1, 0, 1, 0, []), (2, 3, 1, 0, 2, 0, []), (3, 6, 44, 0, 105, 3, [(0, 10)]), (6, 9, 19, 0, 11, 1, []), (9, 10, 0, 0, 0, 0, []), (10, 11, 35, 0, 0, 0, []), (11, 12, 2, 0, 0, 0, []), (12, 15, 24, 0, 8, 10, []), (15, 16, 2, 0, 0, 0, []), (16, 19, 24, 0, 0, 10, []), (19, 22, 44, 0, 8, 2, [(0, 3)]), (22, 23, 1, 0, 1, 0, []), (23, 26, 19, 0, 37, 1, []), (26, 27, 2, 0, 0, 0, []), (27, 30, 24, 0, 6, 10, []), (30, 31, 1, 0, 2, 0, []), (31, 34, 44, 0, 97, 2, [(0, 9)]), (34, 37, 18, 0, 81, 0, []), (37, 38, 1, 0, 1, 0, []), (38, 39, 0, 2, 0, 0, []), (39, 42, 20, 0, 64, 4, []), (42, 43, 2, 0, 0, 0, []), (43, 46, 24, 0, 0, 10, []), (46, 49, 24, 0, 10, 6, []), (49, 50, 1, 0, 2, 0, []), (50, 51, 1, 0, 1, 0, []), (51, 52, 0, 1, 0, 0, []), (52, 55, 20, 0, 59, 1, []), (55, 56, 0, 1, 0, 0, []), (56, 59, 18, 0, 60, 0, []), (59, 60, 0, 0, 0, 0, []), (60, 61, 27, 0, 0, 0, []), (61, 64, 18, 0, 81, 0, []), (64, 65, 2, 0, 0, 0, []), (65, 68, 24, 0, 0, 10, []), (68, 69, 1, 0, 1, 0, []), (69, 70, 0, 3, 0, 0, []), (70, 73, 20, 0, 77, 1, []), (73, 74, 0, 1, 0, 0, []), (74, 77, 18, 0, 78, 0, []), (77, 78, 0, 0, 0, 0, []), (78, 81, 25, 0, 2, 6, []), (81, 82, 0, 1, 0, 0, []), (82, 83, 35, 0, 0, 0, [])]
set_option maxRecDepth 100000 in
theorem ok104 : k104.all (chk 104 (qbt 104) (qow 104)) = true := by decide +kernel
/-- ClayBoots.canAct(II)Z -/
def k105 : List En := [(0, 1, 1, 0, 1, 0, []), (1, 36, 23, 0, 137, 0, [(0, 36), (1, 45), (2, 74), (3, 104), (4, 120)]), (36, 37, 2, 0, 0, 0, []), (37, 40, 24, 0, 0, 10, []), (40, 41, 1, 0, 2, 0, []), (41, 44, 44, 0, 56, 2, [(0, 6)]), (44, 45, 35, 0, 0, 0, []), (45, 46, 2, 0, 0, 0, []), (46, 49, 24, 0, 0, 10, []), (49, 50, 1, 0, 2, 0, []), (50, 53, 44, 0, 56, 2, [(0, 6)]), (53, 56, 19, 0, 72, 0, []), (56, 57, 2, 0, 0, 0, []), (57, 60, 24, 0, 0, 10, []), (60, 63, 24, 0, 10, 6, []), (63, 64, 1, 0, 2, 0, []), (64, 65, 26, 0, 0, 0, []), (65, 68, 19, 0, 72, 1, []), (68, 69, 0, 1, 0, 0, []), (69, 72, 18, 0, 73, 0, []), (72, 73, 0, 0, 0, 0, []), (73, 74, 35, 0, 0, 0, []), (74, 75, 2, 0, 0, 0, []), (75, 78, 24, 0, 0, 10, []), (78, 79, 1, 0, 2, 0, []), (79, 82, 44, 0, 56, 2, [(0, 6)]), (82, 85, 19, 0, 102, 0, []), (85, 86, 2, 0, 0, 0, []), (86, 89, 24, 0, 0, 10, []), (89, 92, 24, 0, 10, 6, []), (92, 93, 1, 0, 2, 0, []), (93, 94, 26, 0, 0, 0, []), (94, 95, 0, 1, 0, 0, []), (95, 98, 20, 0, 102, 1, []), (98, 99, 0, 1, 0, 0, []), (99, 102, 18, 0, 103, 0, []), (102, 103, 0, 0, 0, 0, []), (103, 104, 35, 0, 0, 0, []), (104, 105, 2, 0, 0, 0, []), (105, 108, 24, 0, 0, 10, []), (108, 111, 24, 0, 2, 6, []), (111, 114, 19, 0, 118, 1, []), (114, 115, 0, 1, 0, 0, []), (115, 118, 18, 0, 119, 0, []), (118, 119, 0, 0, 0, 0, []), (119, 120, 35, 0, 0, 0, []), (120, 121, 2, 0, 0, 0, []), (121, 124, 24, 0, 0, 10, []), (124, 127, 24, 0, 2, 6, []), (127, 128, 0, 1, 0, 0, []), (128, 131, 20, 0, 135, 1, []), (131, 132, 0, 1, 0, 0, []), (132, 135, 18, 0, 136, 0, []), (135, 136, 0, 0, 0, 0, []), (136, 137, 35, 0, 0, 0, []), (137, 138, 0, 0, 0, 0, []), (138, 139, 35, 0, 0, 0, [])]
set_option maxRecDepth 100000 in
theorem ok105 : k105.all (chk 105 (qbt 105) (qow 105)) = true := by decide +kernel
/-- ClayBoots.days(I)I -/
def k106 : List En := [(0, 1, 1, 0, 1, 0, []), (1, 2, 0, 1, 0, 0, []), (2, 4, 0, 60, 0, 0, []), (4, 7, 38, 0, 146, 3, []), (7, 10, 19, 0, 25, 0, []), (10, 11, 2, 0, 0, 0, []), (11, 14, 24, 0, 0, 10, []), (14, 17, 24, 0, 4, 6, []), (17, 18, 1, 0, 1, 0, []), (18, 19, 8, 0, 0, 0, []), (19, 22, 0, 9999, 0, 0, []), (22, 25, 20, 0, 27, 5, []), (25, 26, 0, -1, 0, 0, []), (26, 27, 34, 0, 0, 0, []), (27, 28, 0, 0, 0, 0, []), (28, 29, 4, 0, 2, 0, []), (29, 30, 0, 0, 0, 0, []), (30, 31, 4, 0, 3, 0, []), (31, 32, 1, 0, 3, 0, []), (32, 33, 1, 0, 1, 0, []), (33, 36, 20, 0, 71, 3, []), (36, 37, 1, 0, 1, 0, []), (37, 38, 1, 0, 3, 0, []), (38, 39, 8, 0, 1, 0, []), (39, 41, 0, 6, 0, 0, []), (41, 44, 20, 0, 55, 4, []), (44, 45, 2, 0, 0, 0, []), (45, 48, 24, 0, 8, 10, []), (48, 49, 2, 0, 0, 0, []), (49, 52, 24, 0, 0, 10, []), (52, 55, 44, 0, 8, 2, [(0, 3)]), (55, 56, 1, 0, 2, 0, []), (56, 57, 2, 0, 0, 0, []), (57, 60, 24, 0, 6, 10, []), (60, 63, 44, 0, 95, 1, [(0, 9)]), (63, 64, 8, 0, 0, 0, []), (64, 65, 4, 0, 2, 0, []), (65, 68, 7, 1, 3, 0, []), (68, 71, 18, 0, 31, 0, []), (71, 72, 1, 0, 2, 0, []), (72, 73, 34, 0, 0, 0, [])]
set_option maxRecDepth 100000 in
theorem ok106 : k106.all (chk 106 (qbt 106) (qow 106)) = true := by decide +kernel
/-- ClayBoots.feed(IIIII)I -/
def k107 : List En := [(0, 1, 2, 0, 0, 0, []), (1, 4, 24, 0, 5, 10, []), (4, 7, 24, 0, 7, 5, []), (7, 9, 0, 20, 0, 0, []), (9, 10, 8, 0, 0, 0, []), (10, 13, 0, 400, 0, 0, []), (13, 16, 20, 0, 18, 5, []), (16, 17, 0, -1, 0, 0, []), (17, 18, 34, 0, 0, 0, []), (18, 19, 2, 0, 0, 0, []), (19, 22, 24, 0, 5, 10, []), (22, 23, 1, 0, 1, 0, []), (23, 26, 44, 0, 23, 2, [(0, 5)]), (26, 27, 2, 0, 0, 0, []), (27, 30, 24, 0, 5, 10, []), (30, 31, 1, 0, 2, 0, []), (31, 34, 44, 0, 23, 2, [(0, 5)]), (34, 35, 2, 0, 0, 0, []), (35, 38, 24, 0, 5, 10, []), (38, 39, 1, 0, 3, 0, []), (39, 42, 44, 0, 23, 2, [(0, 5)]), (42, 43, 2, 0, 0, 0, []), (43, 46, 24, 0, 5, 10, []), (46, 48, 1, 0, 4, 0, []), (48, 51, 44, 0, 23, 2, [(0, 5)]), (51, 52, 2, 0, 0, 0, []), (52, 55, 24, 0, 5, 10, []), (55, 57, 1, 0, 5, 0, []), (57, 60, 44, 0, 23, 2, [(0, 5)]), (60, 61, 2, 0, 0, 0, []), (61, 64, 24, 0, 5, 10, []), (64, 67, 24, 0, 7, 5, []), (67, 68, 34, 0, 0, 0, [])]
set_option maxRecDepth 100000 in
theorem ok107 : k107.all (chk 107 (qbt 107) (qow 107)) = true := by decide +kernel
end
section
/-- ClayBoots.end(I)Z -/
def k108 : List En := [(0, 1, 1, 0, 1, 0, []), (1, 4, 19, 0, 15, 2, []), (4, 5, 1, 0, 1, 0, []), (5, 6, 2, 0, 0, 0, []), (6, 9, 24, 0, 5, 10, []), (9, 12, 24, 0, 7, 5, []), (12, 15, 20, 0, 17, 5, []), (15, 16, 0, 0, 0, 0, []), (16, 17, 35, 0, 0, 0, []), (17, 18, 2, 0, 0, 0, []), (18, 21, 24, 0, 5, 10, []), (21, 22, 1, 0, 1, 0, []), (22, 25, 25, 0, 7, 5, []), (25, 26, 0, 1, 0, 0, []), (26, 27, 35, 0, 0, 0, [])]
set_option maxRecDepth 100000 in
theorem ok108 : k108.all (chk 108 (qbt 108) (qow 108)) = true := by decide +kernel
/-- ClayBoots.text(I)I -/
def k109 : List En := [(0, 1, 2, 0, 0, 0, []), (1, 4, 24, 0, 5, 10, []), (4, 5, 1, 0, 1, 0, []), (5, 8, 44, 0, 24, 2, [(0, 5)]), (8, 9, 4, 0, 2, 0, []), (9, 10, 1, 0, 2, 0, []), (10, 11, 0, -1, 0, 0, []), (11, 14, 20, 0, 16, 1, []), (14, 15, 0, -1, 0, 0, []), (15, 16, 34, 0, 0, 0, []), (16, 17, 1, 0, 1, 0, []), (17, 44, 23, 0, 109, 0, [(0, 44), (1, 61), (2, 85)]), (44, 45, 2, 0, 0, 0, []), (45, 48, 24, 0, 2, 10, []), (48, 49, 2, 0, 0, 0, []), (49, 52, 24, 0, 5, 10, []), (52, 55, 24, 0, 1, 5, []), (55, 58, 44, 0, 2, 2, [(0, 2)]), (58, 61, 18, 0, 123, 0, []), (61, 62, 2, 0, 0, 0, []), (62, 65, 24, 0, 3, 10, []), (65, 66, 2, 0, 0, 0, []), (66, 69, 24, 0, 5, 10, []), (69, 72, 24, 0, 2, 5, []), (72, 75, 44, 0, 12, 2, [(0, 4)]), (75, 76, 2, 0, 0, 0, []), (76, 79, 24, 0, 8, 10, []), (79, 82, 44, 0, 10, 1, [(0, 3)]), (82, 85, 18, 0, 123, 0, []), (85, 86, 2, 0, 0, 0, []), (86, 89, 24, 0, 3, 10, []), (89, 90, 2, 0, 0, 0, []), (90, 93, 24, 0, 5, 10, []), (93, 96, 24, 0, 2, 5, []), (96, 99, 44, 0, 13, 2, [(0, 4)]), (99, 100, 2, 0, 0, 0, []), (100, 103, 24, 0, 8, 10, []), (103, 106, 44, 0, 10, 1, [(0, 3)]), (106, 109, 18, 0, 123, 0, []), (109, 110, 2, 0, 0, 0, []), (110, 113, 24, 0, 3, 10, []), (113, 114, 2, 0, 0, 0, []), (114, 117, 24, 0, 5, 10, []), (117, 120, 24, 0, 2, 5, []), (120, 123, 44, 0, 14, 2, [(0, 4)]), (123, 124, 1, 0, 2, 0, []), (124, 125, 34, 0, 0, 0, [])]
set_option maxRecDepth 100000 in
theorem ok109 : k109.all (chk 109 (qbt 109) (qow 109)) = true := by decide +kernel
/-- ClayBoots.fault(I)I -/
def k110 : List En := [(0, 1, 1, 0, 1, 0, []), (1, 28, 23, 0, 44, 0, [(0, 28), (1, 36)]), (28, 29, 2, 0, 0, 0, []), (29, 32, 24, 0, 5, 10, []), (32, 35, 24, 0, 13, 5, []), (35, 36, 34, 0, 0, 0, []), (36, 37, 2, 0, 0, 0, []), (37, 40, 24, 0, 5, 10, []), (40, 43, 24, 0, 14, 5, []), (43, 44, 34, 0, 0, 0, []), (44, 45, 0, -1, 0, 0, []), (45, 46, 34, 0, 0, 0, [])]
set_option maxRecDepth 100000 in
theorem ok110 : k110.all (chk 110 (qbt 110) (qow 110)) = true := by decide +kernel
/-- ClayBoots.of(II)I -/
def k111 : List En := [(0, 1, 2, 0, 0, 0, []), (1, 4, 24, 0, 0, 10, []), (4, 5, 1, 0, 1, 0, []), (5, 8, 44, 0, 57, 2, [(0, 6)]), (8, 11, 19, 0, 13, 1, []), (11, 12, 0, -1, 0, 0, []), (12, 13, 34, 0, 0, 0, []), (13, 14, 1, 0, 2, 0, []), (14, 48, 23, 0, 97, 0, [(0, 48), (1, 58), (2, 68), (3, 78), (4, 88)]), (48, 49, 2, 0, 0, 0, []), (49, 52, 24, 0, 0, 10, []), (52, 55, 24, 0, 12, 6, []), (55, 56, 1, 0, 1, 0, []), (56, 57, 26, 0, 0, 0, []), (57, 58, 34, 0, 0, 0, []), (58, 59, 2, 0, 0, 0, []), (59, 62, 24, 0, 0, 10, []), (62, 65, 24, 0, 13, 6, []), (65, 66, 1, 0, 1, 0, []), (66, 67, 26, 0, 0, 0, []), (67, 68, 34, 0, 0, 0, []), (68, 69, 2, 0, 0, 0, []), (69, 72, 24, 0, 0, 10, []), (72, 75, 24, 0, 14, 6, []), (75, 76, 1, 0, 1, 0, []), (76, 77, 26, 0, 0, 0, []), (77, 78, 34, 0, 0, 0, []), (78, 79, 2, 0, 0, 0, []), (79, 82, 24, 0, 0, 10, []), (82, 85, 24, 0, 15, 6, []), (85, 86, 1, 0, 1, 0, []), (86, 87, 26, 0, 0, 0, []), (87, 88, 34, 0, 0, 0, []), (88, 89, 2, 0, 0, 0, []), (89, 92, 24, 0, 0, 10, []), (92, 93, 1, 0, 1, 0, []), (93, 96, 44, 0, 63, 2, [(0, 6)]), (96, 97, 34, 0, 0, 0, []), (97, 98, 1, 0, 2, 0, []), (98, 100, 0, 10, 0, 0, []), (100, 102, 0, 19, 0, 0, []), (102, 105, 38, 0, 146, 3, []), (105, 108, 19, 0, 140, 0, []), (108, 109, 2, 0, 0, 0, []), (109, 112, 24, 0, 0, 10, []), (112, 113, 1, 0, 2, 0, []), (113, 115, 0, 10, 0, 0, []), (115, 116, 8, 0, 1, 0, []), (116, 119, 44, 0, 55, 2, [(0, 6)]), (119, 122, 19, 0, 140, 0, []), (122, 123, 2, 0, 0, 0, []), (123, 126, 24, 0, 0, 10, []), (126, 129, 24, 0, 16, 6, []), (129, 130, 1, 0, 1, 0, []), (130, 132, 0, 10, 0, 0, []), (132, 133, 8, 0, 2, 0, []), (133, 134, 1, 0, 2, 0, []), (134, 135, 8, 0, 0, 0, []), (135, 137, 0, 10, 0, 0, []), (137, 138, 8, 0, 1, 0, []), (138, 139, 26, 0, 0, 0, []), (139, 140, 34, 0, 0, 0, []), (140, 141, 1, 0, 2, 0, []), (141, 143, 0, 20, 0, 0, []), (143, 145, 0, 29, 0, 0, []), (145, 148, 38, 0, 146, 3, []), (148, 151, 19, 0, 182, 0, []), (151, 152, 2, 0, 0, 0, []), (152, 155, 24, 0, 0, 10, []), (155, 156, 1, 0, 2, 0, []), (156, 158, 0, 20, 0, 0, []), (158, 159, 8, 0, 1, 0, []), (159, 162, 44, 0, 55, 2, [(0, 6)]), (162, 165, 19, 0, 182, 0, []), (165, 166, 2, 0, 0, 0, []), (166, 169, 24, 0, 6, 10, []), (169, 172, 0, 10010, 0, 0, []), (172, 173, 1, 0, 1, 0, []), (173, 174, 1, 0, 2, 0, []), (174, 176, 0, 20, 0, 0, []), (176, 177, 8, 0, 1, 0, []), (177, 178, 0, -1, 0, 0, []), (178, 181, 44, 0, 89, 5, [(0, 9)]), (181, 182, 34, 0, 0, 0, []), (182, 183, 0, -1, 0, 0, []), (183, 184, 34, 0, 0, 0, [])]
set_option maxRecDepth 100000 in
theorem ok111 : k111.all (chk 111 (qbt 111) (qow 111)) = true := by decide +kernel
/-- ClayBoots.fieldOf(II)I -/
def k112 : List En := [(0, 1, 2, 0, 0, 0, []), (1, 4, 24, 0, 0, 10, []), (4, 5, 1, 0, 1, 0, []), (5, 8, 44, 0, 55, 2, [(0, 6)]), (8, 11, 19, 0, 14, 1, []), (11, 13, 0, -2, 0, 0, []), (13, 14, 34, 0, 0, 0, []), (14, 15, 1, 0, 2, 0, []), (15, 40, 23, 0, 69, 0, [(0, 40), (1, 50), (2, 60)]), (40, 41, 2, 0, 0, 0, []), (41, 44, 24, 0, 0, 10, []), (44, 47, 24, 0, 8, 6, []), (47, 48, 1, 0, 1, 0, []), (48, 49, 26, 0, 0, 0, []), (49, 50, 34, 0, 0, 0, []), (50, 51, 2, 0, 0, 0, []), (51, 54, 24, 0, 0, 10, []), (54, 57, 24, 0, 9, 6, []), (57, 58, 1, 0, 1, 0, []), (58, 59, 26, 0, 0, 0, []), (59, 60, 34, 0, 0, 0, []), (60, 61, 2, 0, 0, 0, []), (61, 64, 24, 0, 0, 10, []), (64, 65, 1, 0, 1, 0, []), (65, 68, 44, 0, 66, 2, [(0, 6)]), (68, 69, 34, 0, 0, 0, []), (69, 71, 0, -2, 0, 0, []), (71, 72, 34, 0, 0, 0, [])]
set_option maxRecDepth 100000 in
theorem ok112 : k112.all (chk 112 (qbt 112) (qow 112)) = true := by decide +kernel
/-- ClayBoots.doorOf(II)I -/
def k113 : List En := [(0, 1, 2, 0, 0, 0, []), (1, 4, 24, 0, 0, 10, []), (4, 5, 1, 0, 1, 0, []), (5, 8, 44, 0, 56, 2, [(0, 6)]), (8, 11, 19, 0, 14, 1, []), (11, 13, 0, -2, 0, 0, []), (13, 14, 34, 0, 0, 0, []), (14, 15, 1, 0, 2, 0, []), (15, 40, 23, 0, 68, 0, [(0, 40), (1, 50), (2, 59)]), (40, 41, 2, 0, 0, 0, []), (41, 44, 24, 0, 0, 10, []), (44, 47, 24, 0, 10, 6, []), (47, 48, 1, 0, 1, 0, []), (48, 49, 26, 0, 0, 0, []), (49, 50, 34, 0, 0, 0, []), (50, 51, 2, 0, 0, 0, []), (51, 54, 24, 0, 0, 10, []), (54, 55, 1, 0, 1, 0, []), (55, 58, 44, 0, 65, 2, [(0, 6)]), (58, 59, 34, 0, 0, 0, []), (59, 60, 2, 0, 0, 0, []), (60, 63, 24, 0, 0, 10, []), (63, 64, 1, 0, 1, 0, []), (64, 67, 44, 0, 67, 2, [(0, 6)]), (67, 68, 34, 0, 0, 0, []), (68, 69, 1, 0, 2, 0, []), (69, 71, 0, 10, 0, 0, []), (71, 73, 0, 19, 0, 0, []), (73, 76, 38, 0, 146, 3, []), (76, 79, 19, 0, 111, 0, []), (79, 80, 2, 0, 0, 0, []), (80, 83, 24, 0, 0, 10, []), (83, 84, 1, 0, 2, 0, []), (84, 86, 0, 10, 0, 0, []), (86, 87, 8, 0, 1, 0, []), (87, 90, 44, 0, 55, 2, [(0, 6)]), (90, 93, 19, 0, 111, 0, []), (93, 94, 2, 0, 0, 0, []), (94, 97, 24, 0, 0, 10, []), (97, 100, 24, 0, 11, 6, []), (100, 101, 1, 0, 1, 0, []), (101, 103, 0, 10, 0, 0, []), (103, 104, 8, 0, 2, 0, []), (104, 105, 1, 0, 2, 0, []), (105, 106, 8, 0, 0, 0, []), (106, 108, 0, 10, 0, 0, []), (108, 109, 8, 0, 1, 0, []), (109, 110, 26, 0, 0, 0, []), (110, 111, 34, 0, 0, 0, []), (111, 112, 1, 0, 2, 0, []), (112, 114, 0, 20, 0, 0, []), (114, 116, 0, 27, 0, 0, []), (116, 119, 38, 0, 146, 3, []), (119, 122, 19, 0, 149, 0, []), (122, 123, 2, 0, 0, 0, []), (123, 126, 24, 0, 0, 10, []), (126, 127, 1, 0, 2, 0, []), (127, 129, 0, 20, 0, 0, []), (129, 130, 8, 0, 1, 0, []), (130, 133, 44, 0, 56, 2, [(0, 6)]), (133, 136, 19, 0, 149, 0, []), (136, 137, 2, 0, 0, 0, []), (137, 140, 24, 0, 3, 10, []), (140, 141, 1, 0, 1, 0, []), (141, 142, 1, 0, 2, 0, []), (142, 144, 0, 20, 0, 0, []), (144, 145, 8, 0, 1, 0, []), (145, 148, 44, 0, 18, 3, [(0, 4)]), (148, 149, 34, 0, 0, 0, []), (149, 151, 0, -2, 0, 0, []), (151, 152, 34, 0, 0, 0, [])]
set_option maxRecDepth 100000 in
theorem ok113 : k113.all (chk 113 (qbt 113) (qow 113)) = true := by decide +kernel
/-- ClayBoots.tells(IIII)I -/
def k114 : List En := [(0, 1, 2, 0, 0, 0, []), (1, 4, 24, 0, 0, 10, []), (4, 5, 1, 0, 1, 0, []), (5, 8, 44, 0, 57, 2, [(0, 6)]), (8, 11, 19, 0, 22, 0, []), (11, 12, 2, 0, 0, 0, []), (12, 15, 24, 0, 0, 10, []), (15, 16, 1, 0, 3, 0, []), (16, 19, 44, 0, 56, 2, [(0, 6)]), (19, 22, 19, 0, 24, 1, []), (22, 23, 0, -1, 0, 0, []), (23, 24, 34, 0, 0, 0, []), (24, 26, 1, 0, 4, 0, []), (26, 29, 19, 0, 54, 1, []), (29, 30, 2, 0, 0, 0, []), (30, 33, 24, 0, 0, 10, []), (33, 34, 1, 0, 2, 0, []), (34, 37, 44, 0, 55, 2, [(0, 6)]), (37, 40, 19, 0, 54, 0, []), (40, 41, 2, 0, 0, 0, []), (41, 44, 24, 0, 6, 10, []), (44, 47, 0, 10011, 0, 0, []), (47, 48, 1, 0, 1, 0, []), (48, 49, 1, 0, 2, 0, []), (49, 50, 1, 0, 3, 0, []), (50, 53, 44, 0, 89, 5, [(0, 9)]), (53, 54, 34, 0, 0, 0, []), (54, 56, 1, 0, 4, 0, []), (56, 57, 0, 1, 0, 0, []), (57, 60, 20, 0, 76, 1, []), (60, 61, 2, 0, 0, 0, []), (61, 64, 24, 0, 6, 10, []), (64, 67, 0, 10012, 0, 0, []), (67, 68, 1, 0, 1, 0, []), (68, 69, 0, -1, 0, 0, []), (69, 70, 1, 0, 3, 0, []), (70, 73, 44, 0, 89, 5, [(0, 9)]), (73, 76, 18, 0, 77, 0, []), (76, 77, 0, -1, 0, 0, []), (77, 78, 34, 0, 0, 0, [])]
set_option maxRecDepth 100000 in
theorem ok114 : k114.all (chk 114 (qbt 114) (qow 114)) = true := by decide +kernel
/-- ClayBoots.book(II)I -/
def k115 : List En := [(0, 1, 1, 0, 1, 0, []), (1, 2, 0, 0, 0, 0, []), (2, 3, 2, 0, 0, 0, []), (3, 6, 24, 0, 0, 10, []), (6, 9, 24, 0, 17, 6, []), (9, 12, 24, 0, 0, 0, []), (12, 13, 0, 1, 0, 0, []), (13, 14, 8, 0, 1, 0, []), (14, 17, 38, 0, 146, 3, []), (17, 20, 19, 0, 29, 0, []), (20, 21, 1, 0, 2, 0, []), (21, 22, 0, 0, 0, 0, []), (22, 23, 0, 3, 0, 0, []), (23, 26, 38, 0, 146, 3, []), (26, 29, 19, 0, 31, 1, []), (29, 30, 0, -1, 0, 0, []), (30, 31, 34, 0, 0, 0, []), (31, 32, 2, 0, 0, 0, []), (32, 35, 24, 0, 0, 10, []), (35, 38, 24, 0, 17, 6, []), (38, 41, 24, 0, 1, 0, []), (41, 42, 1, 0, 1, 0, []), (42, 43, 0, 4, 0, 0, []), (43, 44, 8, 0, 2, 0, []), (44, 45, 1, 0, 2, 0, []), (45, 46, 8, 0, 0, 0, []), (46, 47, 26, 0, 0, 0, []), (47, 48, 34, 0, 0, 0, [])]
set_option maxRecDepth 100000 in
theorem ok115 : k115.all (chk 115 (qbt 115) (qow 115)) = true := by decide +kernel
/-- ClayBoots.goes(II)I -/
def k116 : List En := [(0, 1, 1, 0, 1, 0, []), (1, 2, 0, 1, 0, 0, []), (2, 4, 0, 60, 0, 0, []), (4, 7, 38, 0, 146, 3, []), (7, 10, 19, 0, 19, 0, []), (10, 11, 1, 0, 2, 0, []), (11, 12, 0, 0, 0, 0, []), (12, 13, 0, 2, 0, 0, []), (13, 16, 38, 0, 146, 3, []), (16, 19, 19, 0, 21, 1, []), (19, 20, 0, -1, 0, 0, []), (20, 21, 34, 0, 0, 0, []), (21, 22, 2, 0, 0, 0, []), (22, 25, 24, 0, 1, 10, []), (25, 26, 2, 0, 0, 0, []), (26, 29, 24, 0, 0, 10, []), (29, 32, 44, 0, 54, 2, [(0, 6)]), (32, 33, 0, 0, 0, 0, []), (33, 34, 4, 0, 3, 0, []), (34, 35, 1, 0, 3, 0, []), (35, 36, 1, 0, 1, 0, []), (36, 39, 20, 0, 53, 3, []), (39, 40, 2, 0, 0, 0, []), (40, 43, 24, 0, 7, 10, []), (43, 46, 44, 0, 95, 1, [(0, 9)]), (46, 47, 17, 0, 0, 0, []), (47, 50, 7, 1, 3, 0, []), (50, 53, 18, 0, 34, 0, []), (53, 54, 1, 0, 2, 0, []), (54, 57, 19, 0, 65, 1, []), (57, 58, 2, 0, 0, 0, []), (58, 61, 24, 0, 1, 10, []), (61, 64, 24, 0, 3, 6, []), (64, 65, 34, 0, 0, 0, []), (65, 66, 1, 0, 2, 0, []), (66, 67, 0, 1, 0, 0, []), (67, 70, 20, 0, 80, 1, []), (70, 71, 2, 0, 0, 0, []), (71, 74, 24, 0, 1, 10, []), (74, 77, 44, 0, 64, 1, [(0, 6)]), (77, 80, 18, 0, 87, 0, []), (80, 81, 2, 0, 0, 0, []), (81, 84, 24, 0, 1, 10, []), (84, 87, 44, 0, 68, 1, [(0, 6)]), (87, 88, 34, 0, 0, 0, [])]
set_option maxRecDepth 100000 in
theorem ok116 : k116.all (chk 116 (qbt 116) (qow 116)) = true := by decide +kernel
/-- ClayBoots.would(IIII)I -/
def k117 : List En := [(0, 1, 2, 0, 0, 0, []), (1, 4, 24, 0, 0, 10, []), (4, 5, 1, 0, 1, 0, []), (5, 6, 1, 0, 2, 0, []), (6, 7, 1, 0, 3, 0, []), (7, 10, 44, 0, 58, 4, [(0, 6)]), (10, 13, 19, 0, 23, 0, []), (13, 15, 1, 0, 4, 0, []), (15, 16, 0, 0, 0, 0, []), (16, 17, 0, 1, 0, 0, []), (17, 20, 38, 0, 146, 3, []), (20, 23, 19, 0, 25, 1, []), (23, 24, 0, -1, 0, 0, []), (24, 25, 34, 0, 0, 0, []), (25, 26, 2, 0, 0, 0, []), (26, 29, 24, 0, 1, 10, []), (29, 30, 2, 0, 0, 0, []), (30, 33, 24, 0, 0, 10, []), (33, 36, 44, 0, 54, 2, [(0, 6)]), (36, 37, 2, 0, 0, 0, []), (37, 40, 24, 0, 7, 10, []), (40, 41, 1, 0, 1, 0, []), (41, 43, 0, 10, 0, 0, []), (43, 44, 1, 0, 2, 0, []), (44, 45, 8, 0, 0, 0, []), (45, 46, 1, 0, 3, 0, []), (46, 49, 44, 0, 90, 4, [(0, 9)]), (49, 51, 4, 0, 5, 0, []), (51, 53, 1, 0, 4, 0, []), (53, 56, 19, 0, 61, 1, []), (56, 58, 1, 0, 5, 0, []), (58, 61, 18, 0, 68, 0, []), (61, 62, 2, 0, 0, 0, []), (62, 65, 24, 0, 7, 10, []), (65, 68, 24, 0, 5, 9, []), (68, 69, 34, 0, 0, 0, [])]
set_option maxRecDepth 100000 in
theorem ok117 : k117.all (chk 117 (qbt 117) (qow 117)) = true := by decide +kernel
/-- ClayBoots.many(IIII)I -/
def k118 : List En := [(0, 1, 2, 0, 0, 0, []), (1, 4, 24, 0, 0, 10, []), (4, 5, 1, 0, 1, 0, []), (5, 6, 1, 0, 2, 0, []), (6, 7, 1, 0, 3, 0, []), (7, 10, 44, 0, 58, 4, [(0, 6)]), (10, 13, 19, 0, 25, 0, []), (13, 15, 1, 0, 4, 0, []), (15, 16, 0, 1, 0, 0, []), (16, 19, 0, 9999, 0, 0, []), (19, 22, 38, 0, 146, 3, []), (22, 25, 19, 0, 27, 1, []), (25, 26, 0, -1, 0, 0, []), (26, 27, 34, 0, 0, 0, []), (27, 28, 2, 0, 0, 0, []), (28, 31, 24, 0, 1, 10, []), (31, 32, 2, 0, 0, 0, []), (32, 35, 24, 0, 0, 10, []), (35, 38, 44, 0, 54, 2, [(0, 6)]), (38, 39, 0, 0, 0, 0, []), (39, 41, 4, 0, 5, 0, []), (41, 43, 1, 0, 5, 0, []), (43, 45, 0, 99, 0, 0, []), (45, 48, 20, 0, 90, 4, []), (48, 49, 2, 0, 0, 0, []), (49, 52, 24, 0, 1, 10, []), (52, 55, 24, 0, 11, 6, []), (55, 56, 1, 0, 3, 0, []), (56, 58, 0, 10, 0, 0, []), (58, 59, 8, 0, 2, 0, []), (59, 60, 1, 0, 2, 0, []), (60, 61, 8, 0, 0, 0, []), (61, 62, 26, 0, 0, 0, []), (62, 64, 1, 0, 4, 0, []), (64, 67, 20, 0, 70, 2, []), (67, 69, 1, 0, 5, 0, []), (69, 70, 34, 0, 0, 0, []), (70, 71, 2, 0, 0, 0, []), (71, 74, 24, 0, 7, 10, []), (74, 75, 1, 0, 1, 0, []), (75, 77, 0, 10, 0, 0, []), (77, 78, 1, 0, 2, 0, []), (78, 79, 8, 0, 0, 0, []), (79, 80, 1, 0, 3, 0, []), (80, 83, 44, 0, 90, 4, [(0, 9)]), (83, 84, 17, 0, 0, 0, []), (84, 87, 7, 1, 5, 0, []), (87, 90, 18, 0, 41, 0, []), (90, 91, 0, -1, 0, 0, []), (91, 92, 34, 0, 0, 0, [])]
set_option maxRecDepth 100000 in
theorem ok118 : k118.all (chk 118 (qbt 118) (qow 118)) = true := by decide +kernel
/-- ClayBoots.order(IIII)I -/
def k119 : List En := [(0, 1, 1, 0, 3, 0, []), (1, 4, 38, 0, 274, 1, []), (4, 6, 4, 0, 5, 0, []), (6, 7, 2, 0, 0, 0, []), (7, 10, 24, 0, 0, 10, []), (10, 11, 1, 0, 1, 0, []), (11, 14, 44, 0, 57, 2, [(0, 6)]), (14, 17, 19, 0, 71, 0, []), (17, 18, 2, 0, 0, 0, []), (18, 21, 24, 0, 0, 10, []), (21, 22, 1, 0, 2, 0, []), (22, 25, 44, 0, 56, 2, [(0, 6)]), (25, 28, 19, 0, 71, 0, []), (28, 29, 1, 0, 3, 0, []), (29, 32, 19, 0, 71, 5, []), (32, 33, 1, 0, 3, 0, []), (33, 34, 0, 1, 0, 0, []), (34, 35, 2, 0, 0, 0, []), (35, 38, 24, 0, 0, 10, []), (38, 41, 24, 0, 5, 6, []), (41, 42, 8, 0, 6, 0, []), (42, 45, 20, 0, 71, 3, []), (45, 47, 1, 0, 5, 0, []), (47, 48, 0, 5, 0, 0, []), (48, 51, 20, 0, 71, 4, []), (51, 53, 1, 0, 4, 0, []), (53, 56, 19, 0, 73, 0, []), (56, 58, 1, 0, 4, 0, []), (58, 60, 0, 10, 0, 0, []), (60, 62, 0, 9, 0, 0, []), (62, 64, 1, 0, 5, 0, []), (64, 65, 8, 0, 0, 0, []), (65, 68, 38, 0, 146, 3, []), (68, 71, 19, 0, 73, 1, []), (71, 72, 0, -1, 0, 0, []), (72, 73, 34, 0, 0, 0, []), (73, 75, 1, 0, 5, 0, []), (75, 78, 38, 0, 121, 1, []), (78, 80, 4, 0, 6, 0, []), (80, 81, 0, -1, 0, 0, []), (81, 83, 4, 0, 7, 0, []), (83, 84, 0, 0, 0, 0, []), (84, 86, 4, 0, 8, 0, []), (86, 87, 0, 0, 0, 0, []), (87, 89, 4, 0, 9, 0, []), (89, 91, 1, 0, 9, 0, []), (91, 93, 1, 0, 6, 0, []), (93, 96, 20, 0, 149, 3, []), (96, 97, 1, 0, 3, 0, []), (97, 99, 1, 0, 9, 0, []), (99, 102, 38, 0, 120, 2, []), (102, 104, 4, 0, 10, 0, []), (104, 105, 2, 0, 0, 0, []), (105, 108, 24, 0, 1, 10, []), (108, 109, 2, 0, 0, 0, []), (109, 112, 24, 0, 0, 10, []), (112, 115, 44, 0, 54, 2, [(0, 6)]), (115, 116, 2, 0, 0, 0, []), (116, 119, 24, 0, 7, 10, []), (119, 120, 1, 0, 1, 0, []), (120, 122, 1, 0, 10, 0, []), (122, 123, 1, 0, 2, 0, []), (123, 126, 44, 0, 90, 4, [(0, 9)]), (126, 128, 4, 0, 11, 0, []), (128, 130, 1, 0, 11, 0, []), (130, 132, 1, 0, 7, 0, []), (132, 135, 20, 0, 143, 5, []), (135, 137, 1, 0, 11, 0, []), (137, 139, 4, 0, 7, 0, []), (139, 141, 1, 0, 10, 0, []), (141, 143, 4, 0, 8, 0, []), (143, 146, 7, 1, 9, 0, []), (146, 149, 18, 0, 89, 0, []), (149, 151, 1, 0, 4, 0, []), (151, 154, 19, 0, 159, 1, []), (154, 156, 1, 0, 7, 0, []), (156, 159, 18, 0, 169, 0, []), (159, 161, 1, 0, 8, 0, []), (161, 163, 1, 0, 4, 0, []), (163, 165, 0, 10, 0, 0, []), (165, 166, 8, 0, 1, 0, []), (166, 169, 38, 0, 123, 2, []), (169, 170, 34, 0, 0, 0, [])]
set_option maxRecDepth 100000 in
theorem ok119 : k119.all (chk 119 (qbt 119) (qow 119)) = true := by decide +kernel
/-- ClayBoots.orderedRow(II)I -/
def k120 : List En := [(0, 1, 1, 0, 0, 0, []), (1, 2, 4, 0, 2, 0, []), (2, 3, 0, 1, 0, 0, []), (3, 4, 4, 0, 3, 0, []), (4, 5, 1, 0, 1, 0, []), (5, 7, 4, 0, 4, 0, []), (7, 8, 1, 0, 0, 0, []), (8, 11, 38, 0, 274, 1, []), (11, 13, 4, 0, 5, 0, []), (13, 15, 1, 0, 5, 0, []), (15, 18, 19, 0, 72, 5, []), (18, 19, 0, 1, 0, 0, []), (19, 21, 1, 0, 5, 0, []), (21, 22, 0, 1, 0, 0, []), (22, 23, 8, 0, 1, 0, []), (23, 26, 38, 0, 121, 1, []), (26, 29, 39, 0, 0, 0, []), (29, 31, 4, 0, 6, 0, []), (31, 32, 1, 0, 2, 0, []), (32, 34, 1, 0, 4, 0, []), (34, 36, 1, 0, 6, 0, []), (36, 37, 9, 0, 0, 0, []), (37, 40, 38, 0, 122, 2, []), (40, 42, 4, 0, 7, 0, []), (42, 44, 1, 0, 4, 0, []), (44, 46, 1, 0, 6, 0, []), (46, 47, 10, 0, 0, 0, []), (47, 49, 4, 0, 4, 0, []), (49, 50, 1, 0, 2, 0, []), (50, 51, 0, 1, 0, 0, []), (51, 53, 1, 0, 7, 0, []), (53, 54, 8, 0, 6, 0, []), (54, 55, 0, -1, 0, 0, []), (55, 56, 8, 0, 5, 0, []), (56, 57, 8, 0, 3, 0, []), (57, 58, 4, 0, 2, 0, []), (58, 59, 1, 0, 3, 0, []), (59, 61, 0, 10, 0, 0, []), (61, 62, 8, 0, 2, 0, []), (62, 64, 1, 0, 7, 0, []), (64, 65, 8, 0, 0, 0, []), (65, 66, 4, 0, 3, 0, []), (66, 69, 7, -1, 5, 0, []), (69, 72, 18, 0, 13, 0, []), (72, 73, 1, 0, 3, 0, []), (73, 74, 34, 0, 0, 0, [])]
set_option maxRecDepth 100000 in
theorem ok120 : k120.all (chk 120 (qbt 120) (qow 120)) = true := by decide +kernel
/-- ClayBoots.factorial(I)I -/
def k121 : List En := [(0, 1, 0, 1, 0, 0, []), (1, 2, 4, 0, 1, 0, []), (2, 3, 0, 2, 0, 0, []), (3, 4, 4, 0, 2, 0, []), (4, 5, 1, 0, 2, 0, []), (5, 6, 1, 0, 0, 0, []), (6, 9, 20, 0, 24, 4, []), (9, 10, 1, 0, 2, 0, []), (10, 11, 0, 5, 0, 0, []), (11, 14, 20, 0, 24, 4, []), (14, 15, 1, 0, 1, 0, []), (15, 16, 1, 0, 2, 0, []), (16, 17, 8, 0, 2, 0, []), (17, 18, 4, 0, 1, 0, []), (18, 21, 7, 1, 2, 0, []), (21, 24, 18, 0, 4, 0, []), (24, 25, 1, 0, 1, 0, []), (25, 26, 34, 0, 0, 0, [])]
set_option maxRecDepth 100000 in
theorem ok121 : k121.all (chk 121 (qbt 121) (qow 121)) = true := by decide +kernel
/-- ClayBoots.bitAt(II)I -/
def k122 : List En := [(0, 1, 0, 0, 0, 0, []), (1, 2, 4, 0, 2, 0, []), (2, 3, 0, 0, 0, 0, []), (3, 4, 4, 0, 3, 0, []), (4, 5, 1, 0, 3, 0, []), (5, 7, 0, 10, 0, 0, []), (7, 10, 20, 0, 35, 3, []), (10, 11, 1, 0, 0, 0, []), (11, 12, 1, 0, 3, 0, []), (12, 13, 8, 0, 7, 0, []), (13, 14, 0, 1, 0, 0, []), (14, 15, 8, 0, 3, 0, []), (15, 16, 0, 1, 0, 0, []), (16, 19, 20, 0, 29, 1, []), (19, 20, 1, 0, 2, 0, []), (20, 21, 1, 0, 1, 0, []), (21, 24, 20, 0, 26, 1, []), (24, 25, 1, 0, 3, 0, []), (25, 26, 34, 0, 0, 0, []), (26, 29, 7, 1, 2, 0, []), (29, 32, 7, 1, 3, 0, []), (32, 35, 18, 0, 4, 0, []), (35, 36, 0, 0, 0, 0, []), (36, 37, 34, 0, 0, 0, [])]
set_option maxRecDepth 100000 in
theorem ok122 : k122.all (chk 122 (qbt 122) (qow 122)) = true := by decide +kernel
/-- ClayBoots.fieldInRow(II)I -/
def k123 : List En := [(0, 1, 1, 0, 0, 0, []), (1, 4, 38, 0, 149, 1, []), (4, 6, 0, 10, 0, 0, []), (6, 7, 9, 0, 0, 0, []), (7, 8, 4, 0, 2, 0, []), (8, 9, 0, 0, 0, 0, []), (9, 10, 4, 0, 3, 0, []), (10, 11, 1, 0, 3, 0, []), (11, 12, 1, 0, 1, 0, []), (12, 15, 20, 0, 32, 3, []), (15, 16, 1, 0, 3, 0, []), (16, 18, 0, 6, 0, 0, []), (18, 21, 20, 0, 32, 3, []), (21, 22, 1, 0, 2, 0, []), (22, 24, 0, 10, 0, 0, []), (24, 25, 9, 0, 0, 0, []), (25, 26, 4, 0, 2, 0, []), (26, 29, 7, 1, 3, 0, []), (29, 32, 18, 0, 10, 0, []), (32, 33, 1, 0, 2, 0, []), (33, 36, 19, 0, 45, 5, []), (36, 37, 1, 0, 0, 0, []), (37, 38, 1, 0, 2, 0, []), (38, 39, 9, 0, 0, 0, []), (39, 41, 0, 10, 0, 0, []), (41, 42, 10, 0, 0, 0, []), (42, 45, 18, 0, 46, 0, []), (45, 46, 0, -1, 0, 0, []), (46, 47, 34, 0, 0, 0, [])]
set_option maxRecDepth 100000 in
theorem ok123 : k123.all (chk 123 (qbt 123) (qow 123)) = true := by decide +kernel
/-- ClayBoots.clay(II)Z -/
def k124 : List En := [(0, 1, 1, 0, 1, 0, []), (1, 2, 0, 0, 0, 0, []), (2, 3, 0, 5, 0, 0, []), (3, 6, 38, 0, 146, 3, []), (6, 9, 19, 0, 19, 0, []), (9, 10, 1, 0, 2, 0, []), (10, 11, 0, 0, 0, 0, []), (11, 13, 0, 30, 0, 0, []), (13, 16, 38, 0, 146, 3, []), (16, 19, 19, 0, 21, 1, []), (19, 20, 0, 0, 0, 0, []), (20, 21, 35, 0, 0, 0, []), (21, 22, 2, 0, 0, 0, []), (22, 25, 24, 0, 4, 10, []), (25, 28, 24, 0, 0, 7, []), (28, 29, 1, 0, 1, 0, []), (29, 30, 1, 0, 2, 0, []), (30, 31, 27, 0, 0, 0, []), (31, 32, 0, 1, 0, 0, []), (32, 33, 35, 0, 0, 0, [])]
set_option maxRecDepth 100000 in
theorem ok124 : k124.all (chk 124 (qbt 124) (qow 124)) = true := by decide +kernel
/-- ClayBoots.mix(I)I -/
def k125 : List En := [(0, 1, 1, 0, 1, 0, []), (1, 2, 0, 0, 0, 0, []), (2, 3, 0, 5, 0, 0, []), (3, 6, 38, 0, 146, 3, []), (6, 9, 19, 0, 22, 0, []), (9, 10, 2, 0, 0, 0, []), (10, 13, 24, 0, 4, 10, []), (13, 14, 1, 0, 1, 0, []), (14, 15, 2, 0, 0, 0, []), (15, 18, 24, 0, 0, 10, []), (18, 21, 44, 0, 72, 3, [(0, 7)]), (21, 22, 34, 0, 0, 0, []), (22, 23, 1, 0, 1, 0, []), (23, 24, 0, -1, 0, 0, []), (24, 27, 20, 0, 29, 0, []), (27, 28, 0, -1, 0, 0, []), (28, 29, 34, 0, 0, 0, []), (29, 30, 42, 0, 1, 0, []), (30, 31, 6, 0, 2, 0, []), (31, 32, 0, 0, 0, 0, []), (32, 34, 4, 0, 4, 0, []), (34, 36, 1, 0, 4, 0, []), (36, 38, 0, 6, 0, 0, []), (38, 41, 20, 0, 68, 3, []), (41, 42, 3, 0, 2, 0, []), (42, 43, 2, 0, 0, 0, []), (43, 46, 24, 0, 4, 10, []), (46, 48, 1, 0, 4, 0, []), (48, 49, 2, 0, 0, 0, []), (49, 52, 24, 0, 0, 10, []), (52, 55, 44, 0, 72, 3, [(0, 7)]), (55, 56, 13, 0, 0, 0, []), (56, 57, 11, 0, 1, 0, []), (57, 60, 42, 0, 1000000007, 0, []), (60, 61, 12, 0, 0, 0, []), (61, 62, 6, 0, 2, 0, []), (62, 65, 7, 1, 4, 0, []), (65, 68, 18, 0, 34, 0, []), (68, 69, 3, 0, 2, 0, []), (69, 70, 14, 0, 0, 0, []), (70, 71, 34, 0, 0, 0, [])]
set_option maxRecDepth 100000 in
theorem ok125 : k125.all (chk 125 (qbt 125) (qow 125)) = true := by decide +kernel
/-- ClayBoots.garden(II)Z -/
def k126 : List En := [(0, 1, 1, 0, 1, 0, []), (1, 2, 0, 0, 0, 0, []), (2, 4, 0, 7, 0, 0, []), (4, 7, 38, 0, 146, 3, []), (7, 10, 19, 0, 20, 0, []), (10, 11, 1, 0, 2, 0, []), (11, 12, 0, 0, 0, 0, []), (12, 14, 0, 7, 0, 0, []), (14, 17, 38, 0, 146, 3, []), (17, 20, 19, 0, 22, 1, []), (20, 21, 0, 0, 0, 0, []), (21, 22, 35, 0, 0, 0, []), (22, 23, 2, 0, 0, 0, []), (23, 26, 24, 0, 4, 10, []), (26, 29, 24, 0, 1, 7, []), (29, 30, 1, 0, 1, 0, []), (30, 31, 1, 0, 2, 0, []), (31, 32, 27, 0, 0, 0, []), (32, 33, 0, 1, 0, 0, []), (33, 34, 35, 0, 0, 0, [])]
set_option maxRecDepth 100000 in
theorem ok126 : k126.all (chk 126 (qbt 126) (qow 126)) = true := by decide +kernel
/-- ClayBoots.back(I)I -/
def k127 : List En := [(0, 1, 1, 0, 1, 0, []), (1, 2, 0, 0, 0, 0, []), (2, 3, 0, 1, 0, 0, []), (3, 6, 38, 0, 146, 3, []), (6, 9, 19, 0, 28, 0, []), (9, 10, 2, 0, 0, 0, []), (10, 13, 24, 0, 4, 10, []), (13, 14, 1, 0, 1, 0, []), (14, 17, 19, 0, 21, 1, []), (17, 18, 0, 1, 0, 0, []), (18, 21, 18, 0, 22, 0, []), (21, 22, 0, 0, 0, 0, []), (22, 25, 44, 0, 74, 2, [(0, 7)]), (25, 28, 18, 0, 29, 0, []), (28, 29, 0, -1, 0, 0, []), (29, 30, 34, 0, 0, 0, [])]
set_option maxRecDepth 100000 in
theorem ok127 : k127.all (chk 127 (qbt 127) (qow 127)) = true := by decide +kernel
/-- ClayBoots.wear(II)I -/
def k128 : List En := [(0, 1, 1, 0, 1, 0, []), (1, 2, 0, -1, 0, 0, []), (2, 5, 20, 0, 16, 1, []), (5, 6, 2, 0, 0, 0, []), (6, 9, 24, 0, 4, 10, []), (9, 12, 24, 0, 2, 7, []), (12, 15, 44, 0, 87, 1, [(0, 8)]), (15, 16, 34, 0, 0, 0, []), (16, 17, 1, 0, 1, 0, []), (17, 18, 0, 0, 0, 0, []), (18, 20, 0, 99, 0, 0, []), (20, 23, 38, 0, 146, 3, []), (23, 26, 19, 0, 40, 0, []), (26, 27, 1, 0, 2, 0, []), (27, 28, 0, 0, 0, 0, []), (28, 30, 0, 99, 0, 0, []), (30, 33, 38, 0, 146, 3, []), (33, 36, 19, 0, 40, 0, []), (36, 37, 0, 1, 0, 0, []), (37, 40, 18, 0, 41, 0, []), (40, 41, 0, 0, 0, 0, []), (41, 42, 4, 0, 3, 0, []), (42, 43, 1, 0, 3, 0, []), (43, 46, 19, 0, 61, 0, []), (46, 47, 2, 0, 0, 0, []), (47, 50, 24, 0, 4, 10, []), (50, 53, 24, 0, 2, 7, []), (53, 54, 1, 0, 1, 0, []), (54, 55, 1, 0, 2, 0, []), (55, 58, 44, 0, 86, 3, [(0, 8)]), (58, 61, 18, 0, 62, 0, []), (61, 62, 0, -1, 0, 0, []), (62, 63, 34, 0, 0, 0, [])]
set_option maxRecDepth 100000 in
theorem ok128 : k128.all (chk 128 (qbt 128) (qow 128)) = true := by decide +kernel
/-- ClayBoots.whose(II)I -/
def k129 : List En := [(0, 1, 1, 0, 1, 0, []), (1, 2, 0, 0, 0, 0, []), (2, 4, 0, 99, 0, 0, []), (4, 7, 38, 0, 146, 3, []), (7, 10, 19, 0, 24, 0, []), (10, 11, 1, 0, 2, 0, []), (11, 12, 0, 0, 0, 0, []), (12, 14, 0, 99, 0, 0, []), (14, 17, 38, 0, 146, 3, []), (17, 20, 19, 0, 24, 0, []), (20, 21, 0, 1, 0, 0, []), (21, 24, 18, 0, 25, 0, []), (24, 25, 0, 0, 0, 0, []), (25, 26, 4, 0, 3, 0, []), (26, 27, 1, 0, 3, 0, []), (27, 30, 19, 0, 42, 0, []), (30, 31, 2, 0, 0, 0, []), (31, 34, 24, 0, 4, 10, []), (34, 35, 1, 0, 1, 0, []), (35, 36, 1, 0, 2, 0, []), (36, 39, 44, 0, 76, 3, [(0, 7)]), (39, 42, 18, 0, 43, 0, []), (42, 43, 0, -1, 0, 0, []), (43, 44, 34, 0, 0, 0, [])]
set_option maxRecDepth 100000 in
theorem ok129 : k129.all (chk 129 (qbt 129) (qow 129)) = true := by decide +kernel
/-- ClayBoots.couples(I)I -/
def k130 : List En := [(0, 1, 1, 0, 1, 0, []), (1, 2, 0, 0, 0, 0, []), (2, 5, 0, 198, 0, 0, []), (5, 8, 38, 0, 146, 3, []), (8, 11, 19, 0, 22, 0, []), (11, 12, 2, 0, 0, 0, []), (12, 15, 24, 0, 4, 10, []), (15, 16, 1, 0, 1, 0, []), (16, 19, 44, 0, 77, 2, [(0, 7)]), (19, 22, 18, 0, 23, 0, []), (22, 23, 0, -1, 0, 0, []), (23, 24, 34, 0, 0, 0, [])]
set_option maxRecDepth 100000 in
theorem ok130 : k130.all (chk 130 (qbt 130) (qow 130)) = true := by decide +kernel
/-- ClayBoots.caller(II)I -/
def k131 : List En := [(0, 1, 1, 0, 1, 0, []), (1, 2, 0, -1, 0, 0, []), (2, 5, 20, 0, 16, 1, []), (5, 6, 2, 0, 0, 0, []), (6, 9, 24, 0, 4, 10, []), (9, 12, 24, 0, 3, 7, []), (12, 15, 44, 0, 87, 1, [(0, 8)]), (15, 16, 34, 0, 0, 0, []), (16, 17, 1, 0, 1, 0, []), (17, 18, 0, 0, 0, 0, []), (18, 20, 0, 99, 0, 0, []), (20, 23, 38, 0, 146, 3, []), (23, 26, 19, 0, 40, 0, []), (26, 27, 1, 0, 2, 0, []), (27, 28, 0, 1, 0, 0, []), (28, 30, 0, 30, 0, 0, []), (30, 33, 38, 0, 146, 3, []), (33, 36, 19, 0, 40, 0, []), (36, 37, 0, 1, 0, 0, []), (37, 40, 18, 0, 41, 0, []), (40, 41, 0, 0, 0, 0, []), (41, 42, 4, 0, 3, 0, []), (42, 43, 1, 0, 3, 0, []), (43, 46, 19, 0, 61, 0, []), (46, 47, 2, 0, 0, 0, []), (47, 50, 24, 0, 4, 10, []), (50, 53, 24, 0, 3, 7, []), (53, 54, 1, 0, 1, 0, []), (54, 55, 1, 0, 2, 0, []), (55, 58, 44, 0, 86, 3, [(0, 8)]), (58, 61, 18, 0, 62, 0, []), (61, 62, 0, -1, 0, 0, []), (62, 63, 34, 0, 0, 0, [])]
set_option maxRecDepth 100000 in
theorem ok131 : k131.all (chk 131 (qbt 131) (qow 131)) = true := by decide +kernel
/-- ClayBoots.line(II)I -/
def k132 : List En := [(0, 1, 1, 0, 1, 0, []), (1, 2, 0, 1, 0, 0, []), (2, 3, 0, 4, 0, 0, []), (3, 6, 38, 0, 146, 3, []), (6, 9, 19, 0, 38, 0, []), (9, 10, 1, 0, 2, 0, []), (10, 11, 0, 0, 0, 0, []), (11, 12, 0, 1, 0, 0, []), (12, 15, 38, 0, 146, 3, []), (15, 18, 19, 0, 38, 0, []), (18, 19, 2, 0, 0, 0, []), (19, 22, 24, 0, 4, 10, []), (22, 23, 1, 0, 1, 0, []), (23, 24, 1, 0, 2, 0, []), (24, 27, 19, 0, 31, 1, []), (27, 28, 0, 1, 0, 0, []), (28, 31, 18, 0, 32, 0, []), (31, 32, 0, 0, 0, 0, []), (32, 35, 44, 0, 78, 3, [(0, 7)]), (35, 38, 18, 0, 39, 0, []), (38, 39, 0, -1, 0, 0, []), (39, 40, 34, 0, 0, 0, [])]
set_option maxRecDepth 100000 in
theorem ok132 : k132.all (chk 132 (qbt 132) (qow 132)) = true := by decide +kernel
/-- ClayBoots.worth(I)I -/
def k133 : List En := [(0, 1, 1, 0, 1, 0, []), (1, 2, 0, -1, 0, 0, []), (2, 5, 20, 0, 16, 1, []), (5, 6, 2, 0, 0, 0, []), (6, 9, 24, 0, 4, 10, []), (9, 12, 24, 0, 4, 7, []), (12, 15, 44, 0, 87, 1, [(0, 8)]), (15, 16, 34, 0, 0, 0, []), (16, 17, 1, 0, 1, 0, []), (17, 18, 0, 0, 0, 0, []), (18, 20, 0, 99, 0, 0, []), (20, 23, 38, 0, 146, 3, []), (23, 26, 19, 0, 41, 0, []), (26, 27, 2, 0, 0, 0, []), (27, 30, 24, 0, 4, 10, []), (30, 33, 24, 0, 4, 7, []), (33, 34, 1, 0, 1, 0, []), (34, 35, 0, 0, 0, 0, []), (35, 38, 44, 0, 86, 3, [(0, 8)]), (38, 41, 18, 0, 42, 0, []), (41, 42, 0, -1, 0, 0, []), (42, 43, 34, 0, 0, 0, [])]
set_option maxRecDepth 100000 in
theorem ok133 : k133.all (chk 133 (qbt 133) (qow 133)) = true := by decide +kernel
/-- ClayBoots.fair(II)I -/
def k134 : List En := [(0, 1, 1, 0, 1, 0, []), (1, 2, 0, 0, 0, 0, []), (2, 4, 0, 9, 0, 0, []), (4, 7, 38, 0, 146, 3, []), (7, 10, 19, 0, 39, 0, []), (10, 11, 1, 0, 2, 0, []), (11, 12, 0, 0, 0, 0, []), (12, 13, 0, 1, 0, 0, []), (13, 16, 38, 0, 146, 3, []), (16, 19, 19, 0, 39, 0, []), (19, 20, 2, 0, 0, 0, []), (20, 23, 24, 0, 4, 10, []), (23, 24, 1, 0, 1, 0, []), (24, 25, 1, 0, 2, 0, []), (25, 28, 19, 0, 32, 1, []), (28, 29, 0, 1, 0, 0, []), (29, 32, 18, 0, 33, 0, []), (32, 33, 0, 0, 0, 0, []), (33, 36, 44, 0, 81, 3, [(0, 7)]), (36, 39, 18, 0, 40, 0, []), (39, 40, 0, -1, 0, 0, []), (40, 41, 34, 0, 0, 0, [])]
set_option maxRecDepth 100000 in
theorem ok134 : k134.all (chk 134 (qbt 134) (qow 134)) = true := by decide +kernel
/-- ClayBoots.offer(II)I -/
def k135 : List En := [(0, 1, 1, 0, 1, 0, []), (1, 2, 0, -1, 0, 0, []), (2, 5, 20, 0, 16, 1, []), (5, 6, 2, 0, 0, 0, []), (6, 9, 24, 0, 4, 10, []), (9, 12, 24, 0, 5, 7, []), (12, 15, 44, 0, 87, 1, [(0, 8)]), (15, 16, 34, 0, 0, 0, []), (16, 17, 1, 0, 1, 0, []), (17, 18, 0, 0, 0, 0, []), (18, 19, 0, 3, 0, 0, []), (19, 22, 38, 0, 146, 3, []), (22, 25, 19, 0, 39, 0, []), (25, 26, 1, 0, 2, 0, []), (26, 27, 0, 0, 0, 0, []), (27, 29, 0, 99, 0, 0, []), (29, 32, 38, 0, 146, 3, []), (32, 35, 19, 0, 39, 0, []), (35, 36, 0, 1, 0, 0, []), (36, 39, 18, 0, 40, 0, []), (39, 40, 0, 0, 0, 0, []), (40, 41, 4, 0, 3, 0, []), (41, 42, 1, 0, 3, 0, []), (42, 45, 19, 0, 60, 0, []), (45, 46, 2, 0, 0, 0, []), (46, 49, 24, 0, 4, 10, []), (49, 52, 24, 0, 5, 7, []), (52, 53, 1, 0, 1, 0, []), (53, 54, 1, 0, 2, 0, []), (54, 57, 44, 0, 86, 3, [(0, 8)]), (57, 60, 18, 0, 61, 0, []), (60, 61, 0, -1, 0, 0, []), (61, 62, 34, 0, 0, 0, [])]
set_option maxRecDepth 100000 in
theorem ok135 : k135.all (chk 135 (qbt 135) (qow 135)) = true := by decide +kernel
/-- ClayBoots.widow(I)I -/
def k136 : List En := [(0, 1, 2, 0, 0, 0, []), (1, 4, 24, 0, 4, 10, []), (4, 7, 24, 0, 5, 7, []), (7, 10, 24, 0, 0, 8, []), (10, 13, 19, 0, 22, 0, []), (13, 14, 1, 0, 1, 0, []), (14, 15, 0, 0, 0, 0, []), (15, 16, 0, 1, 0, 0, []), (16, 19, 38, 0, 146, 3, []), (19, 22, 19, 0, 24, 1, []), (22, 23, 0, -1, 0, 0, []), (23, 24, 34, 0, 0, 0, []), (24, 25, 2, 0, 0, 0, []), (25, 28, 24, 0, 4, 10, []), (28, 29, 0, -1, 0, 0, []), (29, 32, 44, 0, 82, 2, [(0, 7)]), (32, 33, 4, 0, 2, 0, []), (33, 34, 1, 0, 1, 0, []), (34, 37, 19, 0, 41, 1, []), (37, 38, 1, 0, 2, 0, []), (38, 41, 18, 0, 60, 0, []), (41, 42, 0, 0, 0, 0, []), (42, 43, 2, 0, 0, 0, []), (43, 46, 24, 0, 4, 10, []), (46, 47, 2, 0, 0, 0, []), (47, 50, 24, 0, 4, 10, []), (50, 51, 1, 0, 2, 0, []), (51, 54, 44, 0, 82, 2, [(0, 7)]), (54, 57, 44, 0, 83, 2, [(0, 7)]), (57, 60, 39, 0, 0, 0, []), (60, 61, 34, 0, 0, 0, [])]
set_option maxRecDepth 100000 in
theorem ok136 : k136.all (chk 136 (qbt 136) (qow 136)) = true := by decide +kernel
/-- ClayBoots.span(II)I -/
def k137 : List En := [(0, 1, 1, 0, 1, 0, []), (1, 2, 0, -1, 0, 0, []), (2, 5, 20, 0, 20, 1, []), (5, 6, 2, 0, 0, 0, []), (6, 9, 24, 0, 3, 10, []), (9, 10, 2, 0, 0, 0, []), (10, 13, 24, 0, 0, 10, []), (13, 16, 24, 0, 6, 6, []), (16, 19, 44, 0, 19, 2, [(0, 4)]), (19, 20, 34, 0, 0, 0, []), (20, 21, 2, 0, 0, 0, []), (21, 24, 24, 0, 0, 10, []), (24, 25, 1, 0, 1, 0, []), (25, 28, 44, 0, 56, 2, [(0, 6)]), (28, 31, 19, 0, 61, 0, []), (31, 32, 2, 0, 0, 0, []), (32, 35, 24, 0, 0, 10, []), (35, 36, 1, 0, 2, 0, []), (36, 39, 44, 0, 56, 2, [(0, 6)]), (39, 42, 19, 0, 61, 0, []), (42, 43, 2, 0, 0, 0, []), (43, 46, 24, 0, 3, 10, []), (46, 47, 1, 0, 1, 0, []), (47, 48, 1, 0, 2, 0, []), (48, 49, 2, 0, 0, 0, []), (49, 52, 24, 0, 0, 10, []), (52, 55, 24, 0, 6, 6, []), (55, 58, 44, 0, 20, 4, [(0, 4)]), (58, 61, 18, 0, 62, 0, []), (61, 62, 0, -1, 0, 0, []), (62, 63, 34, 0, 0, 0, [])]
set_option maxRecDepth 100000 in
theorem ok137 : k137.all (chk 137 (qbt 137) (qow 137)) = true := by decide +kernel
/-- ClayBoots.later(I)I -/
def k138 : List En := [(0, 1, 1, 0, 1, 0, []), (1, 2, 0, 0, 0, 0, []), (2, 5, 0, 2000000000, 0, 0, []), (5, 8, 38, 0, 146, 3, []), (8, 11, 19, 0, 13, 1, []), (11, 12, 0, 0, 0, 0, []), (12, 13, 34, 0, 0, 0, []), (13, 14, 2, 0, 0, 0, []), (14, 17, 24, 0, 0, 10, []), (17, 20, 24, 0, 0, 6, []), (20, 21, 4, 0, 2, 0, []), (21, 24, 0, 1664525, 0, 0, []), (24, 25, 4, 0, 3, 0, []), (25, 28, 0, 1013904223, 0, 0, []), (28, 30, 4, 0, 4, 0, []), (30, 31, 0, 0, 0, 0, []), (31, 33, 4, 0, 5, 0, []), (33, 35, 1, 0, 5, 0, []), (35, 37, 0, 31, 0, 0, []), (37, 40, 20, 0, 76, 3, []), (40, 41, 1, 0, 1, 0, []), (41, 43, 1, 0, 5, 0, []), (43, 44, 8, 0, 7, 0, []), (44, 45, 0, 1, 0, 0, []), (45, 46, 8, 0, 3, 0, []), (46, 47, 0, 1, 0, 0, []), (47, 50, 20, 0, 57, 1, []), (50, 51, 1, 0, 3, 0, []), (51, 52, 1, 0, 2, 0, []), (52, 53, 8, 0, 2, 0, []), (53, 55, 1, 0, 4, 0, []), (55, 56, 8, 0, 0, 0, []), (56, 57, 4, 0, 2, 0, []), (57, 58, 1, 0, 3, 0, []), (58, 60, 1, 0, 4, 0, []), (60, 61, 8, 0, 2, 0, []), (61, 63, 1, 0, 4, 0, []), (63, 64, 8, 0, 0, 0, []), (64, 66, 4, 0, 4, 0, []), (66, 67, 1, 0, 3, 0, []), (67, 68, 1, 0, 3, 0, []), (68, 69, 8, 0, 2, 0, []), (69, 70, 4, 0, 3, 0, []), (70, 73, 7, 1, 5, 0, []), (73, 76, 18, 0, 33, 0, []), (76, 77, 1, 0, 2, 0, []), (77, 78, 34, 0, 0, 0, [])]
set_option maxRecDepth 100000 in
theorem ok138 : k138.all (chk 138 (qbt 138) (qow 138)) = true := by decide +kernel
/-- ClayBoots.first(II)I -/
def k139 : List En := [(0, 1, 1, 0, 1, 0, []), (1, 2, 0, 2, 0, 0, []), (2, 5, 0, 1000, 0, 0, []), (5, 8, 38, 0, 146, 3, []), (8, 11, 19, 0, 20, 0, []), (11, 12, 1, 0, 2, 0, []), (12, 13, 0, 1, 0, 0, []), (13, 14, 1, 0, 1, 0, []), (14, 17, 38, 0, 146, 3, []), (17, 20, 19, 0, 22, 1, []), (20, 21, 0, -1, 0, 0, []), (21, 22, 34, 0, 0, 0, []), (22, 23, 2, 0, 0, 0, []), (23, 26, 24, 0, 0, 10, []), (26, 29, 24, 0, 0, 6, []), (29, 30, 4, 0, 3, 0, []), (30, 31, 0, 1, 0, 0, []), (31, 33, 4, 0, 4, 0, []), (33, 35, 1, 0, 4, 0, []), (35, 38, 0, 999, 0, 0, []), (38, 41, 20, 0, 64, 4, []), (41, 42, 1, 0, 3, 0, []), (42, 45, 38, 0, 147, 1, []), (45, 46, 4, 0, 3, 0, []), (46, 47, 1, 0, 3, 0, []), (47, 48, 1, 0, 1, 0, []), (48, 51, 38, 0, 148, 2, []), (51, 52, 1, 0, 2, 0, []), (52, 55, 20, 0, 58, 3, []), (55, 57, 1, 0, 4, 0, []), (57, 58, 34, 0, 0, 0, []), (58, 61, 7, 1, 4, 0, []), (61, 64, 18, 0, 33, 0, []), (64, 65, 0, -1, 0, 0, []), (65, 66, 34, 0, 0, 0, [])]
set_option maxRecDepth 100000 in
theorem ok139 : k139.all (chk 139 (qbt 139) (qow 139)) = true := by decide +kernel
/-- ClayBoots.worn(I)I -/
def k140 : List En := [(0, 1, 1, 0, 1, 0, []), (1, 2, 0, -1, 0, 0, []), (2, 5, 20, 0, 16, 1, []), (5, 6, 2, 0, 0, 0, []), (6, 9, 24, 0, 4, 10, []), (9, 12, 24, 0, 6, 7, []), (12, 15, 44, 0, 87, 1, [(0, 8)]), (15, 16, 34, 0, 0, 0, []), (16, 17, 1, 0, 1, 0, []), (17, 18, 0, 0, 0, 0, []), (18, 20, 0, 99, 0, 0, []), (20, 23, 38, 0, 146, 3, []), (23, 26, 19, 0, 41, 0, []), (26, 27, 2, 0, 0, 0, []), (27, 30, 24, 0, 4, 10, []), (30, 33, 24, 0, 6, 7, []), (33, 34, 1, 0, 1, 0, []), (34, 35, 0, 0, 0, 0, []), (35, 38, 44, 0, 86, 3, [(0, 8)]), (38, 41, 18, 0, 42, 0, []), (41, 42, 0, -1, 0, 0, []), (42, 43, 34, 0, 0, 0, [])]
set_option maxRecDepth 100000 in
theorem ok140 : k140.all (chk 140 (qbt 140) (qow 140)) = true := by decide +kernel
/-- ClayBoots.row(I)I -/
def k141 : List En := [(0, 1, 1, 0, 1, 0, []), (1, 2, 0, 0, 0, 0, []), (2, 3, 0, 1, 0, 0, []), (3, 6, 38, 0, 146, 3, []), (6, 9, 19, 0, 28, 0, []), (9, 10, 2, 0, 0, 0, []), (10, 13, 24, 0, 4, 10, []), (13, 14, 1, 0, 1, 0, []), (14, 17, 19, 0, 21, 1, []), (17, 18, 0, 1, 0, 0, []), (18, 21, 18, 0, 22, 0, []), (21, 22, 0, 0, 0, 0, []), (22, 25, 44, 0, 84, 2, [(0, 7)]), (25, 28, 18, 0, 29, 0, []), (28, 29, 0, -1, 0, 0, []), (29, 30, 34, 0, 0, 0, [])]
set_option maxRecDepth 100000 in
theorem ok141 : k141.all (chk 141 (qbt 141) (qow 141)) = true := by decide +kernel
/-- ClayBoots.game(I)I -/
def k142 : List En := [(0, 1, 1, 0, 1, 0, []), (1, 2, 0, 0, 0, 0, []), (2, 3, 0, 1, 0, 0, []), (3, 6, 38, 0, 146, 3, []), (6, 9, 19, 0, 11, 1, []), (9, 10, 0, -1, 0, 0, []), (10, 11, 34, 0, 0, 0, []), (11, 12, 0, 0, 0, 0, []), (12, 13, 4, 0, 2, 0, []), (13, 14, 0, 0, 0, 0, []), (14, 15, 4, 0, 3, 0, []), (15, 16, 1, 0, 3, 0, []), (16, 17, 2, 0, 0, 0, []), (17, 20, 24, 0, 0, 10, []), (20, 23, 24, 0, 6, 6, []), (23, 26, 20, 0, 45, 3, []), (26, 27, 1, 0, 2, 0, []), (27, 28, 2, 0, 0, 0, []), (28, 31, 24, 0, 0, 10, []), (31, 32, 1, 0, 3, 0, []), (32, 35, 44, 0, 65, 2, [(0, 6)]), (35, 36, 0, 4, 0, 0, []), (36, 37, 10, 0, 0, 0, []), (37, 38, 8, 0, 5, 0, []), (38, 39, 4, 0, 2, 0, []), (39, 42, 7, 1, 3, 0, []), (42, 45, 18, 0, 15, 0, []), (45, 46, 1, 0, 2, 0, []), (46, 49, 19, 0, 51, 1, []), (49, 50, 0, -1, 0, 0, []), (50, 51, 34, 0, 0, 0, []), (51, 52, 0, 0, 0, 0, []), (52, 53, 4, 0, 3, 0, []), (53, 54, 1, 0, 3, 0, []), (54, 55, 2, 0, 0, 0, []), (55, 58, 24, 0, 0, 10, []), (58, 61, 24, 0, 6, 6, []), (61, 64, 20, 0, 133, 3, []), (64, 65, 2, 0, 0, 0, []), (65, 68, 24, 0, 0, 10, []), (68, 69, 1, 0, 3, 0, []), (69, 72, 44, 0, 65, 2, [(0, 6)]), (72, 74, 4, 0, 4, 0, []), (74, 76, 1, 0, 4, 0, []), (76, 77, 0, 4, 0, 0, []), (77, 78, 10, 0, 0, 0, []), (78, 79, 1, 0, 2, 0, []), (79, 80, 8, 0, 5, 0, []), (80, 82, 4, 0, 5, 0, []), (82, 83, 0, 1, 0, 0, []), (83, 85, 4, 0, 6, 0, []), (85, 87, 1, 0, 6, 0, []), (87, 88, 0, 3, 0, 0, []), (88, 91, 20, 0, 127, 4, []), (91, 93, 1, 0, 6, 0, []), (93, 95, 1, 0, 4, 0, []), (95, 98, 20, 0, 127, 4, []), (98, 100, 1, 0, 4, 0, []), (100, 102, 1, 0, 6, 0, []), (102, 103, 8, 0, 1, 0, []), (103, 104, 0, 4, 0, 0, []), (104, 105, 10, 0, 0, 0, []), (105, 107, 1, 0, 5, 0, []), (107, 110, 20, 0, 121, 1, []), (110, 111, 1, 0, 1, 0, []), (111, 114, 19, 0, 118, 1, []), (114, 115, 1, 0, 3, 0, []), (115, 118, 18, 0, 120, 0, []), (118, 120, 1, 0, 6, 0, []), (120, 121, 34, 0, 0, 0, []), (121, 124, 7, 1, 6, 0, []), (124, 127, 18, 0, 85, 0, []), (127, 130, 7, 1, 3, 0, []), (130, 133, 18, 0, 53, 0, []), (133, 134, 0, -1, 0, 0, []), (134, 135, 34, 0, 0, 0, [])]
set_option maxRecDepth 100000 in
theorem ok142 : k142.all (chk 142 (qbt 142) (qow 142)) = true := by decide +kernel
/-- ClayBoots.undo()Z -/
def k143 : List En := [(0, 1, 2, 0, 0, 0, []), (1, 4, 24, 0, 8, 10, []), (4, 5, 2, 0, 0, 0, []), (5, 8, 24, 0, 0, 10, []), (8, 11, 44, 0, 9, 2, [(0, 3)]), (11, 12, 35, 0, 0, 0, [])]
set_option maxRecDepth 100000 in
theorem ok143 : k143.all (chk 143 (qbt 143) (qow 143)) = true := by decide +kernel
/-- ClayBoots.image(Z)Z -/
def k144 : List En := [(0, 1, 1, 0, 1, 0, []), (1, 4, 19, 0, 70, 0, []), (4, 5, 2, 0, 0, 0, []), (5, 8, 24, 0, 9, 10, []), (8, 9, 0, 1, 0, 0, []), (9, 12, 25, 0, 0, 1, []), (12, 13, 2, 0, 0, 0, []), (13, 16, 24, 0, 9, 10, []), (16, 19, 24, 0, 1, 1, []), (19, 20, 2, 0, 0, 0, []), (20, 23, 24, 0, 0, 10, []), (23, 26, 44, 0, 53, 2, [(0, 6)]), (26, 27, 2, 0, 0, 0, []), (27, 30, 24, 0, 9, 10, []), (30, 33, 24, 0, 2, 1, []), (33, 34, 2, 0, 0, 0, []), (34, 37, 24, 0, 2, 10, []), (37, 40, 44, 0, 2, 2, [(0, 2)]), (40, 41, 2, 0, 0, 0, []), (41, 44, 24, 0, 9, 10, []), (44, 47, 24, 0, 3, 1, []), (47, 48, 2, 0, 0, 0, []), (48, 51, 24, 0, 3, 10, []), (51, 54, 44, 0, 11, 2, [(0, 4)]), (54, 55, 2, 0, 0, 0, []), (55, 58, 24, 0, 9, 10, []), (58, 61, 24, 0, 4, 1, []), (61, 62, 2, 0, 0, 0, []), (62, 65, 24, 0, 4, 10, []), (65, 68, 44, 0, 71, 2, [(0, 7)]), (68, 69, 0, 1, 0, 0, []), (69, 70, 35, 0, 0, 0, []), (70, 71, 2, 0, 0, 0, []), (71, 74, 24, 0, 9, 10, []), (74, 77, 24, 0, 0, 1, []), (77, 80, 19, 0, 82, 1, []), (80, 81, 0, 0, 0, 0, []), (81, 82, 35, 0, 0, 0, []), (82, 83, 2, 0, 0, 0, []), (83, 86, 24, 0, 0, 10, []), (86, 87, 2, 0, 0, 0, []), (87, 90, 24, 0, 9, 10, []), (90, 93, 24, 0, 1, 1, []), (93, 96, 44, 0, 53, 2, [(0, 6)]), (96, 97, 2, 0, 0, 0, []), (97, 100, 24, 0, 2, 10, []), (100, 101, 2, 0, 0, 0, []), (101, 104, 24, 0, 9, 10, []), (104, 107, 24, 0, 2, 1, []), (107, 110, 44, 0, 2, 2, [(0, 2)]), (110, 111, 2, 0, 0, 0, []), (111, 114, 24, 0, 3, 10, []), (114, 115, 2, 0, 0, 0, []), (115, 118, 24, 0, 9, 10, []), (118, 121, 24, 0, 3, 1, []), (121, 124, 44, 0, 11, 2, [(0, 4)]), (124, 125, 2, 0, 0, 0, []), (125, 128, 24, 0, 4, 10, []), (128, 129, 2, 0, 0, 0, []), (129, 132, 24, 0, 9, 10, []), (132, 135, 24, 0, 4, 1, []), (135, 138, 44, 0, 71, 2, [(0, 7)]), (138, 139, 2, 0, 0, 0, []), (139, 142, 24, 0, 8, 10, []), (142, 145, 44, 0, 10, 1, [(0, 3)]), (145, 146, 0, 1, 0, 0, []), (146, 147, 35, 0, 0, 0, [])]
set_option maxRecDepth 100000 in
theorem ok144 : k144.all (chk 144 (qbt 144) (qow 144)) = true := by decide +kernel
/-- ClayBoots.look(I)I -/
def k145 : List En := [(0, 1, 1, 0, 1, 0, []), (1, 76, 23, 0, 199, 0, [(0, 76), (1, 84), (2, 92), (3, 100), (4, 108), (5, 116), (6, 124), (7, 132), (8, 140), (9, 151), (10, 159), (11, 167), (12, 175), (13, 183), (14, 191)]), (76, 77, 2, 0, 0, 0, []), (77, 80, 24, 0, 0, 10, []), (80, 83, 24, 0, 5, 6, []), (83, 84, 34, 0, 0, 0, []), (84, 85, 2, 0, 0, 0, []), (85, 88, 24, 0, 0, 10, []), (88, 91, 24, 0, 6, 6, []), (91, 92, 34, 0, 0, 0, []), (92, 93, 2, 0, 0, 0, []), (93, 96, 24, 0, 0, 10, []), (96, 99, 24, 0, 7, 6, []), (99, 100, 34, 0, 0, 0, []), (100, 101, 2, 0, 0, 0, []), (101, 104, 24, 0, 0, 10, []), (104, 107, 24, 0, 1, 6, []), (107, 108, 34, 0, 0, 0, []), (108, 109, 2, 0, 0, 0, []), (109, 112, 24, 0, 0, 10, []), (112, 115, 24, 0, 2, 6, []), (115, 116, 34, 0, 0, 0, []), (116, 117, 2, 0, 0, 0, []), (117, 120, 24, 0, 0, 10, []), (120, 123, 24, 0, 3, 6, []), (123, 124, 34, 0, 0, 0, []), (124, 125, 2, 0, 0, 0, []), (125, 128, 24, 0, 0, 10, []), (128, 131, 24, 0, 4, 6, []), (131, 132, 34, 0, 0, 0, []), (132, 133, 2, 0, 0, 0, []), (133, 136, 24, 0, 0, 10, []), (136, 139, 44, 0, 69, 1, [(0, 6)]), (139, 140, 34, 0, 0, 0, []), (140, 141, 2, 0, 0, 0, []), (141, 144, 24, 0, 0, 10, []), (144, 147, 24, 0, 17, 6, []), (147, 150, 24, 0, 0, 0, []), (150, 151, 34, 0, 0, 0, []), (151, 152, 2, 0, 0, 0, []), (152, 155, 24, 0, 0, 10, []), (155, 158, 24, 0, 0, 6, []), (158, 159, 34, 0, 0, 0, []), (159, 160, 2, 0, 0, 0, []), (160, 163, 24, 0, 2, 10, []), (163, 166, 24, 0, 0, 2, []), (166, 167, 34, 0, 0, 0, []), (167, 168, 2, 0, 0, 0, []), (168, 171, 24, 0, 3, 10, []), (171, 174, 24, 0, 0, 4, []), (174, 175, 34, 0, 0, 0, []), (175, 176, 2, 0, 0, 0, []), (176, 179, 24, 0, 3, 10, []), (179, 182, 24, 0, 1, 4, []), (182, 183, 34, 0, 0, 0, []), (183, 184, 2, 0, 0, 0, []), (184, 187, 24, 0, 3, 10, []), (187, 190, 24, 0, 2, 4, []), (190, 191, 34, 0, 0, 0, []), (191, 192, 2, 0, 0, 0, []), (192, 195, 24, 0, 8, 10, []), (195, 198, 24, 0, 0, 3, []), (198, 199, 34, 0, 0, 0, []), (199, 200, 0, -1, 0, 0, []), (200, 201, 34, 0, 0, 0, [])]
set_option maxRecDepth 100000 in
theorem ok145 : k145.all (chk 145 (qbt 145) (qow 145)) = true := by decide +kernel
/-- ClayBoots.within(III)Z -/
def k146 : List En := [(0, 1, 1, 0, 0, 0, []), (1, 2, 1, 0, 1, 0, []), (2, 5, 20, 0, 14, 2, []), (5, 6, 1, 0, 0, 0, []), (6, 7, 1, 0, 2, 0, []), (7, 10, 20, 0, 14, 4, []), (10, 11, 0, 1, 0, 0, []), (11, 14, 18, 0, 15, 0, []), (14, 15, 0, 0, 0, 0, []), (15, 16, 35, 0, 0, 0, [])]
set_option maxRecDepth 100000 in
theorem ok146 : k146.all (chk 146 (qbt 146) (qow 146)) = true := by decide +kernel
/-- ClayBoots.afterDraw(I)I -/
def k147 : List En := [(0, 3, 0, 1664525, 0, 0, []), (3, 4, 1, 0, 0, 0, []), (4, 5, 8, 0, 2, 0, []), (5, 8, 0, 1013904223, 0, 0, []), (8, 9, 8, 0, 0, 0, []), (9, 10, 34, 0, 0, 0, [])]
set_option maxRecDepth 100000 in
theorem ok147 : k147.all (chk 147 (qbt 147) (qow 147)) = true := by decide +kernel
/-- ClayBoots.drawn(II)I -/
def k148 : List En := [(0, 1, 1, 0, 1, 0, []), (1, 4, 19, 0, 13, 5, []), (4, 5, 1, 0, 0, 0, []), (5, 7, 0, 8, 0, 0, []), (7, 8, 8, 0, 8, 0, []), (8, 9, 1, 0, 1, 0, []), (9, 10, 10, 0, 0, 0, []), (10, 13, 18, 0, 14, 0, []), (13, 14, 0, 0, 0, 0, []), (14, 15, 34, 0, 0, 0, [])]
set_option maxRecDepth 100000 in
theorem ok148 : k148.all (chk 148 (qbt 148) (qow 148)) = true := by decide +kernel
/-- ClayBoots.unitOf(I)I -/
def k149 : List En := [(0, 1, 0, 1, 0, 0, []), (1, 2, 4, 0, 1, 0, []), (2, 3, 0, 1, 0, 0, []), (3, 4, 4, 0, 2, 0, []), (4, 5, 1, 0, 2, 0, []), (5, 7, 0, 6, 0, 0, []), (7, 10, 20, 0, 35, 4, []), (10, 11, 1, 0, 1, 0, []), (11, 13, 0, 10, 0, 0, []), (13, 14, 8, 0, 2, 0, []), (14, 15, 4, 0, 1, 0, []), (15, 16, 1, 0, 0, 0, []), (16, 17, 1, 0, 1, 0, []), (17, 20, 20, 0, 29, 2, []), (20, 21, 1, 0, 0, 0, []), (21, 22, 0, 2, 0, 0, []), (22, 23, 1, 0, 1, 0, []), (23, 24, 8, 0, 2, 0, []), (24, 27, 20, 0, 29, 3, []), (27, 28, 1, 0, 1, 0, []), (28, 29, 34, 0, 0, 0, []), (29, 32, 7, 1, 2, 0, []), (32, 35, 18, 0, 4, 0, []), (35, 36, 0, 0, 0, 0, []), (36, 37, 34, 0, 0, 0, [])]
set_option maxRecDepth 100000 in
theorem ok149 : k149.all (chk 149 (qbt 149) (qow 149)) = true := by decide +kernel
end
section
/-- ClayBootsModel.layNone([I)V -/
def k150 : List En := [(0, 1, 0, 0, 0, 0, []), (1, 2, 4, 0, 1, 0, []), (2, 3, 1, 0, 1, 0, []), (3, 5, 0, 64, 0, 0, []), (5, 8, 20, 0, 22, 3, []), (8, 9, 2, 0, 0, 0, []), (9, 12, 0, 479, 0, 0, []), (12, 13, 1, 0, 1, 0, []), (13, 14, 8, 0, 0, 0, []), (14, 15, 0, -1, 0, 0, []), (15, 16, 27, 0, 0, 0, []), (16, 19, 7, 1, 1, 0, []), (19, 22, 18, 0, 2, 0, []), (22, 23, 0, 0, 0, 0, []), (23, 24, 4, 0, 1, 0, []), (24, 25, 1, 0, 1, 0, []), (25, 27, 0, 8, 0, 0, []), (27, 30, 20, 0, 44, 3, []), (30, 31, 2, 0, 0, 0, []), (31, 34, 0, 549, 0, 0, []), (34, 35, 1, 0, 1, 0, []), (35, 36, 8, 0, 0, 0, []), (36, 37, 1, 0, 1, 0, []), (37, 38, 27, 0, 0, 0, []), (38, 41, 7, 1, 1, 0, []), (41, 44, 18, 0, 24, 0, []), (44, 45, 37, 0, 0, 0, [])]
set_option maxRecDepth 100000 in
theorem ok150 : k150.all (chk 150 (qbt 150) (qow 150)) = true := by decide +kernel
/-- ClayBootsModel.isIn(III)Z -/
def k151 : List En := [(0, 1, 1, 0, 0, 0, []), (1, 2, 1, 0, 1, 0, []), (2, 5, 20, 0, 14, 2, []), (5, 6, 1, 0, 0, 0, []), (6, 7, 1, 0, 2, 0, []), (7, 10, 20, 0, 14, 4, []), (10, 11, 0, 1, 0, 0, []), (11, 14, 18, 0, 15, 0, []), (14, 15, 0, 0, 0, 0, []), (15, 16, 35, 0, 0, 0, [])]
set_option maxRecDepth 100000 in
theorem ok151 : k151.all (chk 151 (qbt 151) (qow 151)) = true := by decide +kernel
/-- ClayBootsModel.lesser(II)I -/
def k152 : List En := [(0, 1, 1, 0, 0, 0, []), (1, 2, 1, 0, 1, 0, []), (2, 5, 20, 0, 9, 3, []), (5, 6, 1, 0, 0, 0, []), (6, 9, 18, 0, 10, 0, []), (9, 10, 1, 0, 1, 0, []), (10, 11, 34, 0, 0, 0, [])]
set_option maxRecDepth 100000 in
theorem ok152 : k152.all (chk 152 (qbt 152) (qow 152)) = true := by decide +kernel
/-- ClayBootsModel.greater(II)I -/
def k153 : List En := [(0, 1, 1, 0, 0, 0, []), (1, 2, 1, 0, 1, 0, []), (2, 5, 20, 0, 9, 5, []), (5, 6, 1, 0, 0, 0, []), (6, 9, 18, 0, 10, 0, []), (9, 10, 1, 0, 1, 0, []), (10, 11, 34, 0, 0, 0, [])]
set_option maxRecDepth 100000 in
theorem ok153 : k153.all (chk 153 (qbt 153) (qow 153)) = true := by decide +kernel
/-- ClayBootsModel.apartBy(II)I -/
def k154 : List En := [(0, 1, 1, 0, 0, 0, []), (1, 2, 1, 0, 1, 0, []), (2, 5, 20, 0, 11, 5, []), (5, 6, 1, 0, 0, 0, []), (6, 7, 1, 0, 1, 0, []), (7, 8, 8, 0, 1, 0, []), (8, 11, 18, 0, 14, 0, []), (11, 12, 1, 0, 1, 0, []), (12, 13, 1, 0, 0, 0, []), (13, 14, 8, 0, 1, 0, []), (14, 15, 34, 0, 0, 0, [])]
set_option maxRecDepth 100000 in
theorem ok154 : k154.all (chk 154 (qbt 154) (qow 154)) = true := by decide +kernel
/-- ClayBootsModel.isField(I)Z -/
def k155 : List En := [(0, 1, 1, 0, 1, 0, []), (1, 2, 0, 0, 0, 0, []), (2, 3, 2, 0, 0, 0, []), (3, 6, 24, 0, 0, 11, []), (6, 9, 0, 229, 0, 0, []), (9, 10, 26, 0, 0, 0, []), (10, 11, 0, 1, 0, 0, []), (11, 12, 8, 0, 1, 0, []), (12, 15, 38, 0, 151, 3, []), (15, 16, 35, 0, 0, 0, [])]
set_option maxRecDepth 100000 in
theorem ok155 : k155.all (chk 155 (qbt 155) (qow 155)) = true := by decide +kernel
/-- ClayBootsModel.isDoor(I)Z -/
def k156 : List En := [(0, 1, 1, 0, 1, 0, []), (1, 2, 0, 0, 0, 0, []), (2, 3, 2, 0, 0, 0, []), (3, 6, 24, 0, 0, 11, []), (6, 9, 0, 230, 0, 0, []), (9, 10, 26, 0, 0, 0, []), (10, 11, 0, 1, 0, 0, []), (11, 12, 8, 0, 1, 0, []), (12, 15, 38, 0, 151, 3, []), (15, 16, 35, 0, 0, 0, [])]
set_option maxRecDepth 100000 in
theorem ok156 : k156.all (chk 156 (qbt 156) (qow 156)) = true := by decide +kernel
/-- ClayBootsModel.isPerson(I)Z -/
def k157 : List En := [(0, 1, 1, 0, 1, 0, []), (1, 2, 0, 0, 0, 0, []), (2, 3, 2, 0, 0, 0, []), (3, 6, 24, 0, 0, 11, []), (6, 9, 0, 231, 0, 0, []), (9, 10, 26, 0, 0, 0, []), (10, 11, 0, 1, 0, 0, []), (11, 12, 8, 0, 1, 0, []), (12, 15, 38, 0, 151, 3, []), (15, 16, 35, 0, 0, 0, [])]
set_option maxRecDepth 100000 in
theorem ok157 : k157.all (chk 157 (qbt 157) (qow 157)) = true := by decide +kernel
/-- ClayBootsModel.isStone(I)Z -/
def k158 : List En := [(0, 1, 2, 0, 0, 0, []), (1, 4, 24, 0, 0, 11, []), (4, 6, 0, 6, 0, 0, []), (6, 7, 26, 0, 0, 0, []), (7, 8, 1, 0, 1, 0, []), (8, 9, 8, 0, 7, 0, []), (9, 10, 0, 1, 0, 0, []), (10, 11, 8, 0, 3, 0, []), (11, 12, 0, 1, 0, 0, []), (12, 15, 20, 0, 19, 1, []), (15, 16, 0, 1, 0, 0, []), (16, 19, 18, 0, 20, 0, []), (19, 20, 0, 0, 0, 0, []), (20, 21, 35, 0, 0, 0, [])]
set_option maxRecDepth 100000 in
theorem ok158 : k158.all (chk 158 (qbt 158) (qow 158)) = true := by decide +kernel
/-- ClayBootsModel.forgets()V -/
def k159 : List En := [(0, 1, 2, 0, 0, 0, []), (1, 2, 0, 0, 0, 0, []), (2, 5, 25, 0, 4, 11, []), (5, 6, 37, 0, 0, 0, [])]
set_option maxRecDepth 100000 in
theorem ok159 : k159.all (chk 159 (qbt 159) (qow 159)) = true := by decide +kernel
/-- ClayBootsModel.state(I)I -/
def k160 : List En := [(0, 1, 2, 0, 0, 0, []), (1, 4, 24, 0, 0, 11, []), (4, 5, 0, 4, 0, 0, []), (5, 6, 26, 0, 0, 0, []), (6, 7, 4, 0, 2, 0, []), (7, 8, 2, 0, 0, 0, []), (8, 11, 24, 0, 0, 11, []), (11, 12, 0, 4, 0, 0, []), (12, 13, 1, 0, 1, 0, []), (13, 14, 27, 0, 0, 0, []), (14, 15, 2, 0, 0, 0, []), (15, 18, 44, 0, 159, 1, [(0, 11)]), (18, 19, 1, 0, 2, 0, []), (19, 20, 34, 0, 0, 0, [])]
set_option maxRecDepth 100000 in
theorem ok160 : k160.all (chk 160 (qbt 160) (qow 160)) = true := by decide +kernel
/-- ClayBootsModel.draw(I)I -/
def k161 : List En := [(0, 1, 2, 0, 0, 0, []), (1, 4, 24, 0, 0, 11, []), (4, 5, 0, 4, 0, 0, []), (5, 7, 0, 1664525, 0, 0, []), (7, 8, 2, 0, 0, 0, []), (8, 11, 24, 0, 0, 11, []), (11, 12, 0, 4, 0, 0, []), (12, 13, 26, 0, 0, 0, []), (13, 14, 8, 0, 2, 0, []), (14, 16, 0, 1013904223, 0, 0, []), (16, 17, 8, 0, 0, 0, []), (17, 18, 27, 0, 0, 0, []), (18, 19, 2, 0, 0, 0, []), (19, 22, 24, 0, 0, 11, []), (22, 23, 0, 4, 0, 0, []), (23, 24, 26, 0, 0, 0, []), (24, 26, 0, 8, 0, 0, []), (26, 27, 8, 0, 8, 0, []), (27, 28, 1, 0, 1, 0, []), (28, 29, 10, 0, 0, 0, []), (29, 30, 34, 0, 0, 0, [])]
set_option maxRecDepth 100000 in
theorem ok161 : k161.all (chk 161 (qbt 161) (qow 161)) = true := by decide +kernel
/-- ClayBootsModel.field(II)I -/
def k162 : List En := [(0, 1, 1, 0, 1, 0, []), (1, 2, 0, 0, 0, 0, []), (2, 3, 0, 5, 0, 0, []), (3, 6, 38, 0, 151, 3, []), (6, 9, 19, 0, 33, 0, []), (9, 10, 1, 0, 2, 0, []), (10, 11, 0, 0, 0, 0, []), (11, 14, 0, 9999, 0, 0, []), (14, 17, 38, 0, 151, 3, []), (17, 20, 19, 0, 33, 0, []), (20, 21, 2, 0, 0, 0, []), (21, 24, 24, 0, 0, 11, []), (24, 27, 0, 229, 0, 0, []), (27, 28, 26, 0, 0, 0, []), (28, 30, 0, 10, 0, 0, []), (30, 33, 20, 0, 35, 1, []), (33, 34, 0, -1, 0, 0, []), (34, 35, 34, 0, 0, 0, []), (35, 36, 2, 0, 0, 0, []), (36, 39, 24, 0, 0, 11, []), (39, 42, 0, 241, 0, 0, []), (42, 43, 2, 0, 0, 0, []), (43, 46, 24, 0, 0, 11, []), (46, 49, 0, 229, 0, 0, []), (49, 50, 26, 0, 0, 0, []), (50, 51, 8, 0, 0, 0, []), (51, 52, 1, 0, 1, 0, []), (52, 53, 27, 0, 0, 0, []), (53, 54, 2, 0, 0, 0, []), (54, 57, 24, 0, 0, 11, []), (57, 59, 0, 7, 0, 0, []), (59, 60, 2, 0, 0, 0, []), (60, 63, 24, 0, 0, 11, []), (63, 66, 0, 229, 0, 0, []), (66, 67, 26, 0, 0, 0, []), (67, 68, 8, 0, 0, 0, []), (68, 69, 1, 0, 2, 0, []), (69, 70, 27, 0, 0, 0, []), (70, 71, 2, 0, 0, 0, []), (71, 74, 24, 0, 0, 11, []), (74, 77, 0, 229, 0, 0, []), (77, 78, 16, 0, 0, 0, []), (78, 79, 26, 0, 0, 0, []), (79, 80, 0, 1, 0, 0, []), (80, 81, 8, 0, 0, 0, []), (81, 82, 27, 0, 0, 0, []), (82, 83, 2, 0, 0, 0, []), (83, 86, 44, 0, 159, 1, [(0, 11)]), (86, 87, 2, 0, 0, 0, []), (87, 90, 24, 0, 0, 11, []), (90, 93, 0, 229, 0, 0, []), (93, 94, 26, 0, 0, 0, []), (94, 95, 0, 1, 0, 0, []), (95, 96, 8, 0, 1, 0, []), (96, 97, 34, 0, 0, 0, [])]
set_option maxRecDepth 100000 in
theorem ok162 : k162.all (chk 162 (qbt 162) (qow 162)) = true := by decide +kernel
/-- ClayBootsModel.door(Z)I -/
def k163 : List En := [(0, 1, 2, 0, 0, 0, []), (1, 4, 24, 0, 0, 11, []), (4, 7, 0, 230, 0, 0, []), (7, 8, 26, 0, 0, 0, []), (8, 10, 0, 8, 0, 0, []), (10, 13, 20, 0, 15, 1, []), (13, 14, 0, -1, 0, 0, []), (14, 15, 34, 0, 0, 0, []), (15, 16, 2, 0, 0, 0, []), (16, 19, 24, 0, 0, 11, []), (19, 21, 0, 6, 0, 0, []), (21, 22, 16, 0, 0, 0, []), (22, 23, 26, 0, 0, 0, []), (23, 24, 1, 0, 1, 0, []), (24, 27, 19, 0, 40, 0, []), (27, 28, 0, 1, 0, 0, []), (28, 29, 2, 0, 0, 0, []), (29, 32, 24, 0, 0, 11, []), (32, 35, 0, 230, 0, 0, []), (35, 36, 26, 0, 0, 0, []), (36, 37, 8, 0, 6, 0, []), (37, 40, 18, 0, 41, 0, []), (40, 41, 0, 0, 0, 0, []), (41, 42, 8, 0, 4, 0, []), (42, 43, 27, 0, 0, 0, []), (43, 44, 2, 0, 0, 0, []), (44, 47, 24, 0, 0, 11, []), (47, 50, 0, 230, 0, 0, []), (50, 51, 16, 0, 0, 0, []), (51, 52, 26, 0, 0, 0, []), (52, 53, 0, 1, 0, 0, []), (53, 54, 8, 0, 0, 0, []), (54, 55, 27, 0, 0, 0, []), (55, 56, 2, 0, 0, 0, []), (56, 59, 44, 0, 159, 1, [(0, 11)]), (59, 60, 2, 0, 0, 0, []), (60, 63, 24, 0, 0, 11, []), (63, 66, 0, 230, 0, 0, []), (66, 67, 26, 0, 0, 0, []), (67, 68, 0, 1, 0, 0, []), (68, 69, 8, 0, 1, 0, []), (69, 70, 34, 0, 0, 0, [])]
set_option maxRecDepth 100000 in
theorem ok163 : k163.all (chk 163 (qbt 163) (qow 163)) = true := by decide +kernel
/-- ClayBootsModel.person(III)I -/
def k164 : List En := [(0, 1, 2, 0, 0, 0, []), (1, 2, 1, 0, 1, 0, []), (2, 5, 44, 0, 156, 2, [(0, 11)]), (5, 8, 19, 0, 41, 0, []), (8, 9, 1, 0, 2, 0, []), (9, 10, 0, 1, 0, 0, []), (10, 12, 0, 9, 0, 0, []), (12, 15, 38, 0, 151, 3, []), (15, 18, 19, 0, 41, 0, []), (18, 19, 1, 0, 3, 0, []), (19, 20, 0, 0, 0, 0, []), (20, 22, 0, 9, 0, 0, []), (22, 25, 38, 0, 151, 3, []), (25, 28, 19, 0, 41, 0, []), (28, 29, 2, 0, 0, 0, []), (29, 32, 24, 0, 0, 11, []), (32, 35, 0, 231, 0, 0, []), (35, 36, 26, 0, 0, 0, []), (36, 38, 0, 12, 0, 0, []), (38, 41, 20, 0, 43, 1, []), (41, 42, 0, -1, 0, 0, []), (42, 43, 34, 0, 0, 0, []), (43, 44, 2, 0, 0, 0, []), (44, 47, 24, 0, 0, 11, []), (47, 50, 0, 231, 0, 0, []), (50, 51, 26, 0, 0, 0, []), (51, 53, 4, 0, 4, 0, []), (53, 54, 2, 0, 0, 0, []), (54, 57, 24, 0, 0, 11, []), (57, 60, 0, 251, 0, 0, []), (60, 62, 1, 0, 4, 0, []), (62, 63, 8, 0, 0, 0, []), (63, 64, 1, 0, 1, 0, []), (64, 65, 27, 0, 0, 0, []), (65, 66, 2, 0, 0, 0, []), (66, 69, 24, 0, 0, 11, []), (69, 72, 0, 263, 0, 0, []), (72, 74, 1, 0, 4, 0, []), (74, 75, 8, 0, 0, 0, []), (75, 76, 1, 0, 2, 0, []), (76, 77, 27, 0, 0, 0, []), (77, 78, 2, 0, 0, 0, []), (78, 81, 24, 0, 0, 11, []), (81, 84, 0, 275, 0, 0, []), (84, 86, 1, 0, 4, 0, []), (86, 87, 8, 0, 0, 0, []), (87, 88, 1, 0, 3, 0, []), (88, 89, 27, 0, 0, 0, []), (89, 90, 2, 0, 0, 0, []), (90, 93, 24, 0, 0, 11, []), (93, 96, 0, 231, 0, 0, []), (96, 97, 16, 0, 0, 0, []), (97, 98, 26, 0, 0, 0, []), (98, 99, 0, 1, 0, 0, []), (99, 100, 8, 0, 0, 0, []), (100, 101, 27, 0, 0, 0, []), (101, 102, 2, 0, 0, 0, []), (102, 105, 44, 0, 159, 1, [(0, 11)]), (105, 107, 1, 0, 4, 0, []), (107, 108, 34, 0, 0, 0, [])]
set_option maxRecDepth 100000 in
theorem ok164 : k164.all (chk 164 (qbt 164) (qow 164)) = true := by decide +kernel
/-- ClayBootsModel.set(III)Z -/
def k165 : List En := [(0, 1, 1, 0, 1, 0, []), (1, 4, 19, 0, 14, 1, []), (4, 5, 1, 0, 3, 0, []), (5, 6, 0, 0, 0, 0, []), (6, 8, 0, 9, 0, 0, []), (8, 11, 38, 0, 151, 3, []), (11, 14, 18, 0, 74, 0, []), (14, 15, 1, 0, 1, 0, []), (15, 16, 0, 1, 0, 0, []), (16, 19, 20, 0, 46, 1, []), (19, 20, 2, 0, 0, 0, []), (20, 21, 1, 0, 2, 0, []), (21, 24, 44, 0, 155, 2, [(0, 11)]), (24, 27, 19, 0, 42, 0, []), (27, 28, 1, 0, 3, 0, []), (28, 29, 0, 0, 0, 0, []), (29, 32, 0, 9999, 0, 0, []), (32, 35, 38, 0, 151, 3, []), (35, 38, 19, 0, 42, 0, []), (38, 39, 0, 1, 0, 0, []), (39, 42, 18, 0, 74, 0, []), (42, 43, 0, 0, 0, 0, []), (43, 46, 18, 0, 74, 0, []), (46, 47, 1, 0, 1, 0, []), (47, 48, 0, 2, 0, 0, []), (48, 51, 20, 0, 73, 1, []), (51, 52, 2, 0, 0, 0, []), (52, 53, 1, 0, 2, 0, []), (53, 56, 44, 0, 157, 2, [(0, 11)]), (56, 59, 19, 0, 73, 0, []), (59, 60, 1, 0, 3, 0, []), (60, 61, 0, 0, 0, 0, []), (61, 63, 0, 9, 0, 0, []), (63, 66, 38, 0, 151, 3, []), (66, 69, 19, 0, 73, 0, []), (69, 70, 0, 1, 0, 0, []), (70, 73, 18, 0, 74, 0, []), (73, 74, 0, 0, 0, 0, []), (74, 76, 4, 0, 4, 0, []), (76, 78, 1, 0, 4, 0, []), (78, 81, 19, 0, 83, 1, []), (81, 82, 0, 0, 0, 0, []), (82, 83, 35, 0, 0, 0, []), (83, 84, 2, 0, 0, 0, []), (84, 87, 24, 0, 0, 11, []), (87, 88, 1, 0, 1, 0, []), (88, 91, 19, 0, 95, 1, []), (91, 92, 0, 0, 0, 0, []), (92, 95, 18, 0, 112, 0, []), (95, 96, 1, 0, 1, 0, []), (96, 97, 0, 1, 0, 0, []), (97, 100, 20, 0, 107, 1, []), (100, 102, 0, 7, 0, 0, []), (102, 103, 1, 0, 2, 0, []), (103, 104, 8, 0, 0, 0, []), (104, 107, 18, 0, 112, 0, []), (107, 110, 0, 275, 0, 0, []), (110, 111, 1, 0, 2, 0, []), (111, 112, 8, 0, 0, 0, []), (112, 113, 1, 0, 3, 0, []), (113, 114, 27, 0, 0, 0, []), (114, 115, 2, 0, 0, 0, []), (115, 118, 44, 0, 159, 1, [(0, 11)]), (118, 119, 0, 1, 0, 0, []), (119, 120, 35, 0, 0, 0, [])]
set_option maxRecDepth 100000 in
theorem ok165 : k165.all (chk 165 (qbt 165) (qow 165)) = true := by decide +kernel
/-- ClayBootsModel.feed(IIIII)I -/
def k166 : List En := [(0, 1, 2, 0, 0, 0, []), (1, 4, 24, 0, 16, 11, []), (4, 6, 0, 20, 0, 0, []), (6, 7, 8, 0, 0, 0, []), (7, 10, 0, 400, 0, 0, []), (10, 13, 20, 0, 15, 5, []), (13, 14, 0, -1, 0, 0, []), (14, 15, 34, 0, 0, 0, []), (15, 16, 0, 0, 0, 0, []), (16, 18, 4, 0, 6, 0, []), (18, 20, 1, 0, 6, 0, []), (20, 22, 0, 20, 0, 0, []), (22, 25, 20, 0, 115, 3, []), (25, 27, 1, 0, 6, 0, []), (27, 28, 0, 4, 0, 0, []), (28, 31, 20, 0, 35, 3, []), (31, 32, 1, 0, 1, 0, []), (32, 35, 18, 0, 71, 0, []), (35, 37, 1, 0, 6, 0, []), (37, 39, 0, 8, 0, 0, []), (39, 42, 20, 0, 46, 3, []), (42, 43, 1, 0, 2, 0, []), (43, 46, 18, 0, 71, 0, []), (46, 48, 1, 0, 6, 0, []), (48, 50, 0, 12, 0, 0, []), (50, 53, 20, 0, 57, 3, []), (53, 54, 1, 0, 3, 0, []), (54, 57, 18, 0, 71, 0, []), (57, 59, 1, 0, 6, 0, []), (59, 61, 0, 16, 0, 0, []), (61, 64, 20, 0, 69, 3, []), (64, 66, 1, 0, 4, 0, []), (66, 69, 18, 0, 71, 0, []), (69, 71, 1, 0, 5, 0, []), (71, 73, 4, 0, 7, 0, []), (73, 74, 2, 0, 0, 0, []), (74, 77, 24, 0, 9, 11, []), (77, 78, 2, 0, 0, 0, []), (78, 81, 24, 0, 16, 11, []), (81, 83, 1, 0, 7, 0, []), (83, 85, 0, 24, 0, 0, []), (85, 87, 0, 8, 0, 0, []), (87, 89, 1, 0, 6, 0, []), (89, 90, 0, 4, 0, 0, []), (90, 91, 10, 0, 0, 0, []), (91, 92, 8, 0, 2, 0, []), (92, 93, 8, 0, 1, 0, []), (93, 94, 8, 0, 7, 0, []), (94, 97, 0, 255, 0, 0, []), (97, 98, 8, 0, 3, 0, []), (98, 99, 27, 0, 0, 0, []), (99, 100, 2, 0, 0, 0, []), (100, 101, 15, 0, 0, 0, []), (101, 104, 24, 0, 16, 11, []), (104, 105, 0, 1, 0, 0, []), (105, 106, 8, 0, 0, 0, []), (106, 109, 25, 0, 16, 11, []), (109, 112, 7, 1, 6, 0, []), (112, 115, 18, 0, 18, 0, []), (115, 116, 2, 0, 0, 0, []), (116, 119, 24, 0, 16, 11, []), (119, 120, 34, 0, 0, 0, [])]
set_option maxRecDepth 100000 in
theorem ok166 : k166.all (chk 166 (qbt 166) (qow 166)) = true := by decide +kernel
/-- ClayBootsModel.end(I)Z -/
def k167 : List En := [(0, 1, 1, 0, 1, 0, []), (1, 2, 0, 0, 0, 0, []), (2, 3, 2, 0, 0, 0, []), (3, 6, 24, 0, 16, 11, []), (6, 9, 38, 0, 151, 3, []), (9, 12, 19, 0, 14, 1, []), (12, 13, 0, 0, 0, 0, []), (13, 14, 35, 0, 0, 0, []), (14, 15, 2, 0, 0, 0, []), (15, 16, 1, 0, 1, 0, []), (16, 19, 25, 0, 16, 11, []), (19, 20, 0, 1, 0, 0, []), (20, 21, 35, 0, 0, 0, [])]
set_option maxRecDepth 100000 in
theorem ok167 : k167.all (chk 167 (qbt 167) (qow 167)) = true := by decide +kernel
/-- ClayBootsModel.see(I)I -/
def k168 : List En := [(0, 1, 1, 0, 1, 0, []), (1, 2, 2, 0, 0, 0, []), (2, 5, 24, 0, 16, 11, []), (5, 8, 20, 0, 17, 3, []), (8, 9, 2, 0, 0, 0, []), (9, 12, 24, 0, 9, 11, []), (12, 13, 1, 0, 1, 0, []), (13, 14, 26, 0, 0, 0, []), (14, 17, 18, 0, 18, 0, []), (17, 18, 0, -1, 0, 0, []), (18, 19, 34, 0, 0, 0, [])]
set_option maxRecDepth 100000 in
theorem ok168 : k168.all (chk 168 (qbt 168) (qow 168)) = true := by decide +kernel
/-- ClayBootsModel.isLetter(I)Z -/
def k169 : List En := [(0, 1, 1, 0, 0, 0, []), (1, 3, 0, 97, 0, 0, []), (3, 5, 0, 122, 0, 0, []), (5, 8, 38, 0, 151, 3, []), (8, 11, 19, 0, 22, 1, []), (11, 12, 1, 0, 0, 0, []), (12, 14, 0, 65, 0, 0, []), (14, 16, 0, 90, 0, 0, []), (16, 19, 38, 0, 151, 3, []), (19, 22, 19, 0, 26, 0, []), (22, 23, 0, 1, 0, 0, []), (23, 26, 18, 0, 27, 0, []), (26, 27, 0, 0, 0, 0, []), (27, 28, 35, 0, 0, 0, [])]
set_option maxRecDepth 100000 in
theorem ok169 : k169.all (chk 169 (qbt 169) (qow 169)) = true := by decide +kernel
/-- ClayBootsModel.isDigit(I)Z -/
def k170 : List En := [(0, 1, 1, 0, 0, 0, []), (1, 3, 0, 48, 0, 0, []), (3, 5, 0, 57, 0, 0, []), (5, 8, 38, 0, 151, 3, []), (8, 9, 35, 0, 0, 0, [])]
set_option maxRecDepth 100000 in
theorem ok170 : k170.all (chk 170 (qbt 170) (qow 170)) = true := by decide +kernel
/-- ClayBootsModel.is(Ljava/lang/String;)Z -/
def k171 : List En := [(0, 1, 2, 0, 0, 0, []), (1, 4, 24, 0, 17, 11, []), (4, 5, 2, 0, 0, 0, []), (5, 8, 24, 0, 19, 11, []), (8, 9, 8, 0, 1, 0, []), (9, 10, 2, 0, 1, 0, []), (10, 13, 44, 0, 276, 1, [(0, 14)]), (13, 16, 20, 0, 20, 1, []), (16, 17, 0, 1, 0, 0, []), (17, 20, 18, 0, 21, 0, []), (20, 21, 0, 0, 0, 0, []), (21, 22, 4, 0, 2, 0, []), (22, 23, 0, 0, 0, 0, []), (23, 24, 4, 0, 3, 0, []), (24, 25, 1, 0, 3, 0, []), (25, 26, 2, 0, 1, 0, []), (26, 29, 44, 0, 276, 1, [(0, 14)]), (29, 32, 20, 0, 67, 3, []), (32, 33, 1, 0, 2, 0, []), (33, 36, 19, 0, 67, 0, []), (36, 37, 2, 0, 0, 0, []), (37, 40, 24, 0, 9, 11, []), (40, 41, 2, 0, 0, 0, []), (41, 44, 24, 0, 19, 11, []), (44, 45, 1, 0, 3, 0, []), (45, 46, 8, 0, 0, 0, []), (46, 47, 26, 0, 0, 0, []), (47, 48, 2, 0, 1, 0, []), (48, 49, 1, 0, 3, 0, []), (49, 52, 44, 0, 275, 2, [(0, 14)]), (52, 55, 20, 0, 59, 1, []), (55, 56, 0, 1, 0, 0, []), (56, 59, 18, 0, 60, 0, []), (59, 60, 0, 0, 0, 0, []), (60, 61, 4, 0, 2, 0, []), (61, 64, 7, 1, 3, 0, []), (64, 67, 18, 0, 24, 0, []), (67, 68, 1, 0, 2, 0, []), (68, 69, 35, 0, 0, 0, [])]
set_option maxRecDepth 100000 in
theorem ok171 : k171.all (chk 171 (qbt 171) (qow 171)) = true := by decide +kernel
/-- ClayBootsModel.asked()I -/
def k172 : List En := [(0, 1, 2, 0, 0, 0, []), (1, 3, 41, 0, 1, 0, []), (3, 6, 44, 0, 171, 2, [(0, 11)]), (6, 9, 19, 0, 12, 0, []), (9, 11, 0, 41, 0, 0, []), (11, 12, 34, 0, 0, 0, []), (12, 13, 2, 0, 0, 0, []), (13, 15, 41, 0, 2, 0, []), (15, 18, 44, 0, 171, 2, [(0, 11)]), (18, 21, 19, 0, 24, 0, []), (21, 23, 0, 42, 0, 0, []), (23, 24, 34, 0, 0, 0, []), (24, 25, 2, 0, 0, 0, []), (25, 27, 41, 0, 3, 0, []), (27, 30, 44, 0, 171, 2, [(0, 11)]), (30, 33, 19, 0, 36, 0, []), (33, 35, 0, 43, 0, 0, []), (35, 36, 34, 0, 0, 0, []), (36, 37, 2, 0, 0, 0, []), (37, 39, 41, 0, 4, 0, []), (39, 42, 44, 0, 171, 2, [(0, 11)]), (42, 45, 19, 0, 48, 0, []), (45, 47, 0, 44, 0, 0, []), (47, 48, 34, 0, 0, 0, []), (48, 49, 2, 0, 0, 0, []), (49, 51, 41, 0, 5, 0, []), (51, 54, 44, 0, 171, 2, [(0, 11)]), (54, 57, 19, 0, 60, 0, []), (57, 59, 0, 45, 0, 0, []), (59, 60, 34, 0, 0, 0, []), (60, 61, 2, 0, 0, 0, []), (61, 63, 41, 0, 6, 0, []), (63, 66, 44, 0, 171, 2, [(0, 11)]), (66, 69, 19, 0, 72, 0, []), (69, 71, 0, 46, 0, 0, []), (71, 72, 34, 0, 0, 0, []), (72, 73, 2, 0, 0, 0, []), (73, 75, 41, 0, 7, 0, []), (75, 78, 44, 0, 171, 2, [(0, 11)]), (78, 81, 19, 0, 84, 0, []), (81, 83, 0, 47, 0, 0, []), (83, 84, 34, 0, 0, 0, []), (84, 85, 2, 0, 0, 0, []), (85, 87, 41, 0, 8, 0, []), (87, 90, 44, 0, 171, 2, [(0, 11)]), (90, 93, 19, 0, 96, 0, []), (93, 95, 0, 48, 0, 0, []), (95, 96, 34, 0, 0, 0, []), (96, 97, 2, 0, 0, 0, []), (97, 99, 41, 0, 9, 0, []), (99, 102, 44, 0, 171, 2, [(0, 11)]), (102, 105, 19, 0, 108, 0, []), (105, 107, 0, 49, 0, 0, []), (107, 108, 34, 0, 0, 0, []), (108, 109, 2, 0, 0, 0, []), (109, 111, 41, 0, 10, 0, []), (111, 114, 44, 0, 171, 2, [(0, 11)]), (114, 117, 19, 0, 122, 0, []), (117, 119, 0, 50, 0, 0, []), (119, 122, 18, 0, 123, 0, []), (122, 123, 0, 1, 0, 0, []), (123, 124, 34, 0, 0, 0, [])]
set_option maxRecDepth 100000 in
theorem ok172 : k172.all (chk 172 (qbt 172) (qow 172)) = true := by decide +kernel
/-- ClayBootsModel.lawWord()I -/
def k173 : List En := [(0, 1, 2, 0, 0, 0, []), (1, 3, 41, 0, 11, 0, []), (3, 6, 44, 0, 171, 2, [(0, 11)]), (6, 9, 19, 0, 11, 0, []), (9, 10, 0, 3, 0, 0, []), (10, 11, 34, 0, 0, 0, []), (11, 12, 2, 0, 0, 0, []), (12, 14, 41, 0, 12, 0, []), (14, 17, 44, 0, 171, 2, [(0, 11)]), (17, 20, 19, 0, 22, 0, []), (20, 21, 0, 4, 0, 0, []), (21, 22, 34, 0, 0, 0, []), (22, 23, 2, 0, 0, 0, []), (23, 25, 41, 0, 13, 0, []), (25, 28, 44, 0, 171, 2, [(0, 11)]), (28, 31, 19, 0, 33, 0, []), (31, 32, 0, 5, 0, 0, []), (32, 33, 34, 0, 0, 0, []), (33, 34, 2, 0, 0, 0, []), (34, 36, 41, 0, 14, 0, []), (36, 39, 44, 0, 171, 2, [(0, 11)]), (39, 42, 19, 0, 45, 0, []), (42, 44, 0, 6, 0, 0, []), (44, 45, 34, 0, 0, 0, []), (45, 46, 2, 0, 0, 0, []), (46, 48, 41, 0, 15, 0, []), (48, 51, 44, 0, 171, 2, [(0, 11)]), (51, 54, 19, 0, 57, 0, []), (54, 56, 0, 20, 0, 0, []), (56, 57, 34, 0, 0, 0, []), (57, 58, 2, 0, 0, 0, []), (58, 60, 41, 0, 16, 0, []), (60, 63, 44, 0, 171, 2, [(0, 11)]), (63, 66, 19, 0, 69, 0, []), (66, 68, 0, 21, 0, 0, []), (68, 69, 34, 0, 0, 0, []), (69, 70, 2, 0, 0, 0, []), (70, 72, 41, 0, 17, 0, []), (72, 75, 44, 0, 171, 2, [(0, 11)]), (75, 78, 19, 0, 83, 0, []), (78, 80, 0, 22, 0, 0, []), (80, 83, 18, 0, 87, 0, []), (83, 84, 2, 0, 0, 0, []), (84, 87, 44, 0, 172, 1, [(0, 11)]), (87, 88, 34, 0, 0, 0, [])]
set_option maxRecDepth 100000 in
theorem ok173 : k173.all (chk 173 (qbt 173) (qow 173)) = true := by decide +kernel
/-- ClayBootsModel.word()I -/
def k174 : List En := [(0, 1, 2, 0, 0, 0, []), (1, 4, 24, 0, 12, 11, []), (4, 32, 23, 0, 153, 0, [(0, 32), (1, 37), (2, 95)]), (32, 33, 2, 0, 0, 0, []), (33, 36, 44, 0, 173, 1, [(0, 11)]), (36, 37, 34, 0, 0, 0, []), (37, 38, 2, 0, 0, 0, []), (38, 40, 41, 0, 18, 0, []), (40, 43, 44, 0, 171, 2, [(0, 11)]), (43, 46, 19, 0, 51, 0, []), (46, 48, 0, 7, 0, 0, []), (48, 51, 18, 0, 94, 0, []), (51, 52, 2, 0, 0, 0, []), (52, 54, 41, 0, 19, 0, []), (54, 57, 44, 0, 171, 2, [(0, 11)]), (57, 60, 19, 0, 65, 0, []), (60, 62, 0, 8, 0, 0, []), (62, 65, 18, 0, 94, 0, []), (65, 66, 2, 0, 0, 0, []), (66, 68, 41, 0, 20, 0, []), (68, 71, 44, 0, 171, 2, [(0, 11)]), (71, 74, 19, 0, 79, 0, []), (74, 76, 0, 9, 0, 0, []), (76, 79, 18, 0, 94, 0, []), (79, 80, 2, 0, 0, 0, []), (80, 82, 41, 0, 21, 0, []), (82, 85, 44, 0, 171, 2, [(0, 11)]), (85, 88, 19, 0, 93, 0, []), (88, 90, 0, 10, 0, 0, []), (90, 93, 18, 0, 94, 0, []), (93, 94, 0, 1, 0, 0, []), (94, 95, 34, 0, 0, 0, []), (95, 96, 2, 0, 0, 0, []), (96, 98, 41, 0, 18, 0, []), (98, 101, 44, 0, 171, 2, [(0, 11)]), (101, 104, 19, 0, 109, 0, []), (104, 106, 0, 7, 0, 0, []), (106, 109, 18, 0, 152, 0, []), (109, 110, 2, 0, 0, 0, []), (110, 112, 41, 0, 6, 0, []), (112, 115, 44, 0, 171, 2, [(0, 11)]), (115, 118, 19, 0, 123, 0, []), (118, 120, 0, 11, 0, 0, []), (120, 123, 18, 0, 152, 0, []), (123, 124, 2, 0, 0, 0, []), (124, 126, 41, 0, 7, 0, []), (126, 129, 44, 0, 171, 2, [(0, 11)]), (129, 132, 19, 0, 137, 0, []), (132, 134, 0, 12, 0, 0, []), (134, 137, 18, 0, 152, 0, []), (137, 138, 2, 0, 0, 0, []), (138, 140, 41, 0, 22, 0, []), (140, 143, 44, 0, 171, 2, [(0, 11)]), (143, 146, 19, 0, 151, 0, []), (146, 148, 0, 13, 0, 0, []), (148, 151, 18, 0, 152, 0, []), (151, 152, 0, 1, 0, 0, []), (152, 153, 34, 0, 0, 0, []), (153, 154, 2, 0, 0, 0, []), (154, 156, 41, 0, 23, 0, []), (156, 159, 44, 0, 171, 2, [(0, 11)]), (159, 162, 19, 0, 167, 0, []), (162, 164, 0, 14, 0, 0, []), (164, 167, 18, 0, 168, 0, []), (167, 168, 0, 1, 0, 0, []), (168, 169, 34, 0, 0, 0, [])]
set_option maxRecDepth 100000 in
theorem ok174 : k174.all (chk 174 (qbt 174) (qow 174)) = true := by decide +kernel
/-- ClayBootsModel.next0()V -/
def k175 : List En := [(0, 1, 2, 0, 0, 0, []), (1, 2, 2, 0, 0, 0, []), (2, 5, 24, 0, 17, 11, []), (5, 8, 44, 0, 168, 2, [(0, 11)]), (8, 10, 0, 32, 0, 0, []), (10, 13, 20, 0, 26, 0, []), (13, 14, 2, 0, 0, 0, []), (14, 15, 2, 0, 0, 0, []), (15, 18, 24, 0, 17, 11, []), (18, 21, 44, 0, 168, 2, [(0, 11)]), (21, 23, 0, 10, 0, 0, []), (23, 26, 20, 0, 39, 1, []), (26, 27, 2, 0, 0, 0, []), (27, 28, 15, 0, 0, 0, []), (28, 31, 24, 0, 17, 11, []), (31, 32, 0, 1, 0, 0, []), (32, 33, 8, 0, 0, 0, []), (33, 36, 25, 0, 17, 11, []), (36, 39, 18, 0, 0, 0, []), (39, 40, 2, 0, 0, 0, []), (40, 41, 2, 0, 0, 0, []), (41, 44, 24, 0, 17, 11, []), (44, 47, 25, 0, 19, 11, []), (47, 48, 2, 0, 0, 0, []), (48, 49, 2, 0, 0, 0, []), (49, 52, 24, 0, 17, 11, []), (52, 55, 44, 0, 168, 2, [(0, 11)]), (55, 56, 4, 0, 1, 0, []), (56, 57, 1, 0, 1, 0, []), (57, 58, 0, -1, 0, 0, []), (58, 61, 20, 0, 69, 1, []), (61, 62, 2, 0, 0, 0, []), (62, 63, 0, 0, 0, 0, []), (63, 66, 25, 0, 18, 11, []), (66, 69, 18, 0, 306, 0, []), (69, 70, 1, 0, 1, 0, []), (70, 73, 38, 0, 169, 1, []), (73, 76, 19, 0, 114, 0, []), (76, 77, 2, 0, 0, 0, []), (77, 78, 2, 0, 0, 0, []), (78, 81, 24, 0, 17, 11, []), (81, 84, 44, 0, 168, 2, [(0, 11)]), (84, 87, 38, 0, 169, 1, []), (87, 90, 19, 0, 103, 0, []), (90, 91, 2, 0, 0, 0, []), (91, 92, 15, 0, 0, 0, []), (92, 95, 24, 0, 17, 11, []), (95, 96, 0, 1, 0, 0, []), (96, 97, 8, 0, 0, 0, []), (97, 100, 25, 0, 17, 11, []), (100, 103, 18, 0, 76, 0, []), (103, 104, 2, 0, 0, 0, []), (104, 105, 2, 0, 0, 0, []), (105, 108, 44, 0, 174, 1, [(0, 11)]), (108, 111, 25, 0, 18, 11, []), (111, 114, 18, 0, 306, 0, []), (114, 115, 1, 0, 1, 0, []), (115, 118, 38, 0, 170, 1, []), (118, 121, 19, 0, 214, 0, []), (121, 122, 2, 0, 0, 0, []), (122, 123, 0, 0, 0, 0, []), (123, 126, 25, 0, 20, 11, []), (126, 127, 2, 0, 0, 0, []), (127, 128, 2, 0, 0, 0, []), (128, 131, 24, 0, 17, 11, []), (131, 134, 44, 0, 168, 2, [(0, 11)]), (134, 137, 38, 0, 170, 1, []), (137, 140, 19, 0, 189, 0, []), (140, 141, 2, 0, 0, 0, []), (141, 144, 24, 0, 17, 11, []), (144, 145, 2, 0, 0, 0, []), (145, 148, 24, 0, 19, 11, []), (148, 149, 0, 4, 0, 0, []), (149, 150, 8, 0, 0, 0, []), (150, 153, 20, 0, 176, 3, []), (153, 154, 2, 0, 0, 0, []), (154, 156, 0, 10, 0, 0, []), (156, 157, 2, 0, 0, 0, []), (157, 160, 24, 0, 20, 11, []), (160, 161, 8, 0, 2, 0, []), (161, 162, 2, 0, 0, 0, []), (162, 163, 2, 0, 0, 0, []), (163, 166, 24, 0, 17, 11, []), (166, 169, 44, 0, 168, 2, [(0, 11)]), (169, 170, 8, 0, 0, 0, []), (170, 172, 0, 48, 0, 0, []), (172, 173, 8, 0, 1, 0, []), (173, 176, 25, 0, 20, 11, []), (176, 177, 2, 0, 0, 0, []), (177, 178, 15, 0, 0, 0, []), (178, 181, 24, 0, 17, 11, []), (181, 182, 0, 1, 0, 0, []), (182, 183, 8, 0, 0, 0, []), (183, 186, 25, 0, 17, 11, []), (186, 189, 18, 0, 126, 0, []), (189, 190, 2, 0, 0, 0, []), (190, 191, 2, 0, 0, 0, []), (191, 194, 24, 0, 17, 11, []), (194, 195, 2, 0, 0, 0, []), (195, 198, 24, 0, 19, 11, []), (198, 199, 8, 0, 1, 0, []), (199, 200, 0, 5, 0, 0, []), (200, 203, 20, 0, 207, 3, []), (203, 204, 0, 2, 0, 0, []), (204, 207, 18, 0, 208, 0, []), (207, 208, 0, 1, 0, 0, []), (208, 211, 25, 0, 18, 11, []), (211, 214, 18, 0, 306, 0, []), (214, 215, 2, 0, 0, 0, []), (215, 216, 15, 0, 0, 0, []), (216, 219, 24, 0, 17, 11, []), (219, 220, 0, 1, 0, 0, []), (220, 221, 8, 0, 0, 0, []), (221, 224, 25, 0, 17, 11, []), (224, 225, 1, 0, 1, 0, []), (225, 227, 0, 59, 0, 0, []), (227, 230, 20, 0, 284, 0, []), (230, 231, 1, 0, 1, 0, []), (231, 233, 0, 43, 0, 0, []), (233, 236, 20, 0, 284, 0, []), (236, 237, 1, 0, 1, 0, []), (237, 239, 0, 45, 0, 0, []), (239, 242, 20, 0, 284, 0, []), (242, 243, 1, 0, 1, 0, []), (243, 245, 0, 42, 0, 0, []), (245, 248, 20, 0, 284, 0, []), (248, 249, 1, 0, 1, 0, []), (249, 251, 0, 47, 0, 0, []), (251, 254, 20, 0, 284, 0, []), (254, 255, 1, 0, 1, 0, []), (255, 257, 0, 40, 0, 0, []), (257, 260, 20, 0, 284, 0, []), (260, 261, 1, 0, 1, 0, []), (261, 263, 0, 41, 0, 0, []), (263, 266, 20, 0, 284, 0, []), (266, 267, 1, 0, 1, 0, []), (267, 269, 0, 60, 0, 0, []), (269, 272, 20, 0, 284, 0, []), (272, 273, 1, 0, 1, 0, []), (273, 275, 0, 61, 0, 0, []), (275, 278, 20, 0, 284, 0, []), (278, 279, 1, 0, 1, 0, []), (279, 281, 0, 62, 0, 0, []), (281, 284, 20, 0, 288, 1, []), (284, 285, 0, 1, 0, 0, []), (285, 288, 18, 0, 289, 0, []), (288, 289, 0, 0, 0, 0, []), (289, 290, 4, 0, 2, 0, []), (290, 291, 2, 0, 0, 0, []), (291, 292, 1, 0, 2, 0, []), (292, 295, 19, 0, 302, 0, []), (295, 297, 0, 100, 0, 0, []), (297, 298, 1, 0, 1, 0, []), (298, 299, 8, 0, 0, 0, []), (299, 302, 18, 0, 303, 0, []), (302, 303, 0, 1, 0, 0, []), (303, 306, 25, 0, 18, 11, []), (306, 307, 37, 0, 0, 0, [])]
set_option maxRecDepth 100000 in
theorem ok175 : k175.all (chk 175 (qbt 175) (qow 175)) = true := by decide +kernel
/-- ClayBootsModel.bad(I)Z -/
def k176 : List En := [(0, 1, 2, 0, 0, 0, []), (1, 2, 1, 0, 1, 0, []), (2, 5, 25, 0, 21, 11, []), (5, 6, 2, 0, 0, 0, []), (6, 7, 2, 0, 0, 0, []), (7, 10, 24, 0, 19, 11, []), (10, 13, 25, 0, 22, 11, []), (13, 14, 0, 0, 0, 0, []), (14, 15, 35, 0, 0, 0, [])]
set_option maxRecDepth 100000 in
theorem ok176 : k176.all (chk 176 (qbt 176) (qow 176)) = true := by decide +kernel
/-- ClayBootsModel.need(I)Z -/
def k177 : List En := [(0, 1, 2, 0, 0, 0, []), (1, 4, 24, 0, 18, 11, []), (4, 5, 1, 0, 1, 0, []), (5, 8, 20, 0, 14, 0, []), (8, 9, 2, 0, 0, 0, []), (9, 10, 0, 1, 0, 0, []), (10, 13, 44, 0, 176, 2, [(0, 11)]), (13, 14, 35, 0, 0, 0, []), (14, 15, 2, 0, 0, 0, []), (15, 18, 44, 0, 175, 1, [(0, 11)]), (18, 19, 0, 1, 0, 0, []), (19, 20, 35, 0, 0, 0, [])]
set_option maxRecDepth 100000 in
theorem ok177 : k177.all (chk 177 (qbt 177) (qow 177)) = true := by decide +kernel
/-- ClayBootsModel.lay(II)V -/
def k178 : List En := [(0, 1, 2, 0, 0, 0, []), (1, 4, 24, 0, 7, 11, []), (4, 5, 0, 2, 0, 0, []), (5, 6, 2, 0, 0, 0, []), (6, 9, 24, 0, 14, 11, []), (9, 10, 8, 0, 2, 0, []), (10, 11, 1, 0, 1, 0, []), (11, 12, 27, 0, 0, 0, []), (12, 13, 2, 0, 0, 0, []), (13, 16, 24, 0, 7, 11, []), (16, 17, 0, 2, 0, 0, []), (17, 18, 2, 0, 0, 0, []), (18, 21, 24, 0, 14, 11, []), (21, 22, 8, 0, 2, 0, []), (22, 23, 0, 1, 0, 0, []), (23, 24, 8, 0, 0, 0, []), (24, 25, 1, 0, 2, 0, []), (25, 26, 27, 0, 0, 0, []), (26, 27, 2, 0, 0, 0, []), (27, 28, 15, 0, 0, 0, []), (28, 31, 24, 0, 14, 11, []), (31, 32, 0, 1, 0, 0, []), (32, 33, 8, 0, 0, 0, []), (33, 36, 25, 0, 14, 11, []), (36, 37, 37, 0, 0, 0, [])]
set_option maxRecDepth 100000 in
theorem ok178 : k178.all (chk 178 (qbt 178) (qow 178)) = true := by decide +kernel
/-- ClayBootsModel.opens()Z -/
def k179 : List En := [(0, 1, 2, 0, 0, 0, []), (1, 4, 24, 0, 24, 11, []), (4, 6, 0, 8, 0, 0, []), (6, 9, 20, 0, 15, 1, []), (9, 10, 2, 0, 0, 0, []), (10, 11, 0, 3, 0, 0, []), (11, 14, 44, 0, 176, 2, [(0, 11)]), (14, 15, 35, 0, 0, 0, []), (15, 16, 2, 0, 0, 0, []), (16, 17, 15, 0, 0, 0, []), (17, 20, 24, 0, 24, 11, []), (20, 21, 0, 1, 0, 0, []), (21, 22, 8, 0, 0, 0, []), (22, 25, 25, 0, 24, 11, []), (25, 26, 2, 0, 0, 0, []), (26, 29, 44, 0, 175, 1, [(0, 11)]), (29, 30, 0, 1, 0, 0, []), (30, 31, 35, 0, 0, 0, [])]
set_option maxRecDepth 100000 in
theorem ok179 : k179.all (chk 179 (qbt 179) (qow 179)) = true := by decide +kernel
/-- ClayBootsModel.sumUp()Z -/
def k180 : List En := [(0, 1, 2, 0, 0, 0, []), (1, 4, 44, 0, 181, 1, [(0, 11)]), (4, 7, 19, 0, 9, 1, []), (7, 8, 0, 0, 0, 0, []), (8, 9, 35, 0, 0, 0, []), (9, 10, 2, 0, 0, 0, []), (10, 13, 24, 0, 18, 11, []), (13, 16, 0, 143, 0, 0, []), (16, 19, 20, 0, 29, 0, []), (19, 20, 2, 0, 0, 0, []), (20, 23, 24, 0, 18, 11, []), (23, 26, 0, 145, 0, 0, []), (26, 29, 20, 0, 69, 1, []), (29, 30, 2, 0, 0, 0, []), (30, 33, 24, 0, 18, 11, []), (33, 36, 0, 143, 0, 0, []), (36, 39, 20, 0, 44, 1, []), (39, 41, 0, 23, 0, 0, []), (41, 44, 18, 0, 46, 0, []), (44, 46, 0, 24, 0, 0, []), (46, 47, 4, 0, 1, 0, []), (47, 48, 2, 0, 0, 0, []), (48, 51, 44, 0, 175, 1, [(0, 11)]), (51, 52, 2, 0, 0, 0, []), (52, 55, 44, 0, 181, 1, [(0, 11)]), (55, 58, 19, 0, 60, 1, []), (58, 59, 0, 0, 0, 0, []), (59, 60, 35, 0, 0, 0, []), (60, 61, 2, 0, 0, 0, []), (61, 62, 1, 0, 1, 0, []), (62, 63, 0, 0, 0, 0, []), (63, 66, 44, 0, 178, 3, [(0, 11)]), (66, 69, 18, 0, 9, 0, []), (69, 70, 0, 1, 0, 0, []), (70, 71, 35, 0, 0, 0, [])]
set_option maxRecDepth 100000 in
theorem ok180 : k180.all (chk 180 (qbt 180) (qow 180)) = true := by decide +kernel
/-- ClayBootsModel.product()Z -/
def k181 : List En := [(0, 1, 2, 0, 0, 0, []), (1, 4, 44, 0, 182, 1, [(0, 11)]), (4, 7, 19, 0, 9, 1, []), (7, 8, 0, 0, 0, 0, []), (8, 9, 35, 0, 0, 0, []), (9, 10, 2, 0, 0, 0, []), (10, 13, 24, 0, 18, 11, []), (13, 16, 0, 142, 0, 0, []), (16, 19, 20, 0, 29, 0, []), (19, 20, 2, 0, 0, 0, []), (20, 23, 24, 0, 18, 11, []), (23, 26, 0, 147, 0, 0, []), (26, 29, 20, 0, 115, 1, []), (29, 30, 2, 0, 0, 0, []), (30, 33, 24, 0, 18, 11, []), (33, 36, 0, 147, 0, 0, []), (36, 39, 20, 0, 43, 1, []), (39, 40, 0, 1, 0, 0, []), (40, 43, 18, 0, 44, 0, []), (43, 44, 0, 0, 0, 0, []), (44, 45, 4, 0, 1, 0, []), (45, 46, 2, 0, 0, 0, []), (46, 49, 44, 0, 175, 1, [(0, 11)]), (49, 50, 1, 0, 1, 0, []), (50, 53, 19, 0, 96, 0, []), (53, 54, 2, 0, 0, 0, []), (54, 57, 24, 0, 20, 11, []), (57, 58, 4, 0, 2, 0, []), (58, 59, 2, 0, 0, 0, []), (59, 62, 24, 0, 18, 11, []), (62, 63, 0, 2, 0, 0, []), (63, 66, 20, 0, 72, 0, []), (66, 67, 2, 0, 0, 0, []), (67, 68, 0, 1, 0, 0, []), (68, 71, 44, 0, 176, 2, [(0, 11)]), (71, 72, 35, 0, 0, 0, []), (72, 73, 1, 0, 2, 0, []), (73, 76, 19, 0, 82, 1, []), (76, 77, 2, 0, 0, 0, []), (77, 78, 0, 2, 0, 0, []), (78, 81, 44, 0, 176, 2, [(0, 11)]), (81, 82, 35, 0, 0, 0, []), (82, 83, 2, 0, 0, 0, []), (83, 86, 44, 0, 175, 1, [(0, 11)]), (86, 87, 2, 0, 0, 0, []), (87, 89, 0, 26, 0, 0, []), (89, 90, 1, 0, 2, 0, []), (90, 93, 44, 0, 178, 3, [(0, 11)]), (93, 96, 18, 0, 112, 0, []), (96, 97, 2, 0, 0, 0, []), (97, 100, 44, 0, 182, 1, [(0, 11)]), (100, 103, 19, 0, 105, 1, []), (103, 104, 0, 0, 0, 0, []), (104, 105, 35, 0, 0, 0, []), (105, 106, 2, 0, 0, 0, []), (106, 108, 0, 25, 0, 0, []), (108, 109, 0, 0, 0, 0, []), (109, 112, 44, 0, 178, 3, [(0, 11)]), (112, 115, 18, 0, 9, 0, []), (115, 116, 0, 1, 0, 0, []), (116, 117, 35, 0, 0, 0, [])]
set_option maxRecDepth 100000 in
theorem ok181 : k181.all (chk 181 (qbt 181) (qow 181)) = true := by decide +kernel
/-- ClayBootsModel.unit()Z -/
def k182 : List En := [(0, 1, 2, 0, 0, 0, []), (1, 4, 24, 0, 18, 11, []), (4, 6, 0, 41, 0, 0, []), (6, 8, 0, 50, 0, 0, []), (8, 11, 38, 0, 151, 3, []), (11, 12, 4, 0, 1, 0, []), (12, 13, 2, 0, 0, 0, []), (13, 16, 24, 0, 18, 11, []), (16, 17, 0, 2, 0, 0, []), (17, 20, 20, 0, 30, 0, []), (20, 21, 1, 0, 1, 0, []), (21, 24, 19, 0, 30, 1, []), (24, 25, 2, 0, 0, 0, []), (25, 26, 0, 1, 0, 0, []), (26, 29, 44, 0, 176, 2, [(0, 11)]), (29, 30, 35, 0, 0, 0, []), (30, 31, 2, 0, 0, 0, []), (31, 32, 1, 0, 1, 0, []), (32, 35, 19, 0, 45, 0, []), (35, 36, 2, 0, 0, 0, []), (36, 39, 24, 0, 18, 11, []), (39, 41, 0, 40, 0, 0, []), (41, 42, 8, 0, 1, 0, []), (42, 45, 18, 0, 46, 0, []), (45, 46, 0, 0, 0, 0, []), (46, 47, 2, 0, 0, 0, []), (47, 50, 24, 0, 20, 11, []), (50, 53, 44, 0, 178, 3, [(0, 11)]), (53, 54, 2, 0, 0, 0, []), (54, 57, 44, 0, 175, 1, [(0, 11)]), (57, 58, 0, 1, 0, 0, []), (58, 59, 35, 0, 0, 0, [])]
set_option maxRecDepth 100000 in
theorem ok182 : k182.all (chk 182 (qbt 182) (qow 182)) = true := by decide +kernel
/-- ClayBootsModel.any()Z -/
def k183 : List En := [(0, 1, 2, 0, 0, 0, []), (1, 4, 44, 0, 184, 1, [(0, 11)]), (4, 7, 19, 0, 9, 1, []), (7, 8, 0, 0, 0, 0, []), (8, 9, 35, 0, 0, 0, []), (9, 10, 2, 0, 0, 0, []), (10, 13, 24, 0, 18, 11, []), (13, 14, 0, 4, 0, 0, []), (14, 17, 20, 0, 40, 1, []), (17, 18, 2, 0, 0, 0, []), (18, 21, 44, 0, 175, 1, [(0, 11)]), (21, 22, 2, 0, 0, 0, []), (22, 25, 44, 0, 184, 1, [(0, 11)]), (25, 28, 19, 0, 30, 1, []), (28, 29, 0, 0, 0, 0, []), (29, 30, 35, 0, 0, 0, []), (30, 31, 2, 0, 0, 0, []), (31, 33, 0, 32, 0, 0, []), (33, 34, 0, 0, 0, 0, []), (34, 37, 44, 0, 178, 3, [(0, 11)]), (37, 40, 18, 0, 9, 0, []), (40, 41, 0, 1, 0, 0, []), (41, 42, 35, 0, 0, 0, [])]
set_option maxRecDepth 100000 in
theorem ok183 : k183.all (chk 183 (qbt 183) (qow 183)) = true := by decide +kernel
/-- ClayBootsModel.every()Z -/
def k184 : List En := [(0, 1, 2, 0, 0, 0, []), (1, 4, 44, 0, 185, 1, [(0, 11)]), (4, 7, 19, 0, 9, 1, []), (7, 8, 0, 0, 0, 0, []), (8, 9, 35, 0, 0, 0, []), (9, 10, 2, 0, 0, 0, []), (10, 13, 24, 0, 18, 11, []), (13, 14, 0, 5, 0, 0, []), (14, 17, 20, 0, 40, 1, []), (17, 18, 2, 0, 0, 0, []), (18, 21, 44, 0, 175, 1, [(0, 11)]), (21, 22, 2, 0, 0, 0, []), (22, 25, 44, 0, 185, 1, [(0, 11)]), (25, 28, 19, 0, 30, 1, []), (28, 29, 0, 0, 0, 0, []), (29, 30, 35, 0, 0, 0, []), (30, 31, 2, 0, 0, 0, []), (31, 33, 0, 31, 0, 0, []), (33, 34, 0, 0, 0, 0, []), (34, 37, 44, 0, 178, 3, [(0, 11)]), (37, 40, 18, 0, 9, 0, []), (40, 41, 0, 1, 0, 0, []), (41, 42, 35, 0, 0, 0, [])]
set_option maxRecDepth 100000 in
theorem ok184 : k184.all (chk 184 (qbt 184) (qow 184)) = true := by decide +kernel
/-- ClayBootsModel.oneTest()Z -/
def k185 : List En := [(0, 1, 2, 0, 0, 0, []), (1, 4, 24, 0, 18, 11, []), (4, 6, 0, 6, 0, 0, []), (6, 9, 20, 0, 44, 1, []), (9, 10, 2, 0, 0, 0, []), (10, 13, 44, 0, 179, 1, [(0, 11)]), (13, 16, 19, 0, 23, 0, []), (16, 17, 2, 0, 0, 0, []), (17, 20, 44, 0, 185, 1, [(0, 11)]), (20, 23, 19, 0, 25, 1, []), (23, 24, 0, 0, 0, 0, []), (24, 25, 35, 0, 0, 0, []), (25, 26, 2, 0, 0, 0, []), (26, 27, 15, 0, 0, 0, []), (27, 30, 24, 0, 24, 11, []), (30, 31, 0, 1, 0, 0, []), (31, 32, 8, 0, 1, 0, []), (32, 35, 25, 0, 24, 11, []), (35, 36, 2, 0, 0, 0, []), (36, 38, 0, 30, 0, 0, []), (38, 39, 0, 0, 0, 0, []), (39, 42, 44, 0, 178, 3, [(0, 11)]), (42, 43, 0, 1, 0, 0, []), (43, 44, 35, 0, 0, 0, []), (44, 45, 2, 0, 0, 0, []), (45, 48, 24, 0, 18, 11, []), (48, 51, 0, 140, 0, 0, []), (51, 54, 20, 0, 92, 1, []), (54, 55, 2, 0, 0, 0, []), (55, 58, 44, 0, 179, 1, [(0, 11)]), (58, 61, 19, 0, 78, 0, []), (61, 62, 2, 0, 0, 0, []), (62, 65, 44, 0, 183, 1, [(0, 11)]), (65, 68, 19, 0, 78, 0, []), (68, 69, 2, 0, 0, 0, []), (69, 72, 0, 141, 0, 0, []), (72, 75, 44, 0, 177, 2, [(0, 11)]), (75, 78, 19, 0, 80, 1, []), (78, 79, 0, 0, 0, 0, []), (79, 80, 35, 0, 0, 0, []), (80, 81, 2, 0, 0, 0, []), (81, 82, 15, 0, 0, 0, []), (82, 85, 24, 0, 24, 11, []), (85, 86, 0, 1, 0, 0, []), (86, 87, 8, 0, 1, 0, []), (87, 90, 25, 0, 24, 11, []), (90, 91, 0, 1, 0, 0, []), (91, 92, 35, 0, 0, 0, []), (92, 93, 2, 0, 0, 0, []), (93, 96, 44, 0, 180, 1, [(0, 11)]), (96, 99, 19, 0, 101, 1, []), (99, 100, 0, 0, 0, 0, []), (100, 101, 35, 0, 0, 0, []), (101, 102, 2, 0, 0, 0, []), (102, 105, 24, 0, 18, 11, []), (105, 108, 0, 160, 0, 0, []), (108, 111, 20, 0, 116, 1, []), (111, 113, 0, 27, 0, 0, []), (113, 116, 18, 0, 147, 0, []), (116, 117, 2, 0, 0, 0, []), (117, 120, 24, 0, 18, 11, []), (120, 123, 0, 161, 0, 0, []), (123, 126, 20, 0, 131, 1, []), (126, 128, 0, 28, 0, 0, []), (128, 131, 18, 0, 147, 0, []), (131, 132, 2, 0, 0, 0, []), (132, 135, 24, 0, 18, 11, []), (135, 138, 0, 162, 0, 0, []), (138, 141, 20, 0, 146, 1, []), (141, 143, 0, 29, 0, 0, []), (143, 146, 18, 0, 147, 0, []), (146, 147, 0, -1, 0, 0, []), (147, 148, 4, 0, 1, 0, []), (148, 149, 1, 0, 1, 0, []), (149, 150, 0, -1, 0, 0, []), (150, 153, 20, 0, 159, 1, []), (153, 154, 2, 0, 0, 0, []), (154, 155, 0, 1, 0, 0, []), (155, 158, 44, 0, 176, 2, [(0, 11)]), (158, 159, 35, 0, 0, 0, []), (159, 160, 2, 0, 0, 0, []), (160, 163, 44, 0, 175, 1, [(0, 11)]), (163, 164, 2, 0, 0, 0, []), (164, 167, 44, 0, 180, 1, [(0, 11)]), (167, 170, 19, 0, 172, 1, []), (170, 171, 0, 0, 0, 0, []), (171, 172, 35, 0, 0, 0, []), (172, 173, 2, 0, 0, 0, []), (173, 174, 1, 0, 1, 0, []), (174, 175, 0, 0, 0, 0, []), (175, 178, 44, 0, 178, 3, [(0, 11)]), (178, 179, 0, 1, 0, 0, []), (179, 180, 35, 0, 0, 0, [])]
set_option maxRecDepth 100000 in
theorem ok185 : k185.all (chk 185 (qbt 185) (qow 185)) = true := by decide +kernel
/-- ClayBootsModel.aLine()Z -/
def k186 : List En := [(0, 1, 2, 0, 0, 0, []), (1, 4, 24, 0, 18, 11, []), (4, 6, 0, 20, 0, 0, []), (6, 8, 0, 22, 0, 0, []), (8, 11, 38, 0, 151, 3, []), (11, 14, 19, 0, 20, 1, []), (14, 15, 2, 0, 0, 0, []), (15, 16, 0, 1, 0, 0, []), (16, 19, 44, 0, 176, 2, [(0, 11)]), (19, 20, 35, 0, 0, 0, []), (20, 21, 2, 0, 0, 0, []), (21, 24, 24, 0, 13, 11, []), (24, 26, 0, 16, 0, 0, []), (26, 29, 20, 0, 35, 1, []), (29, 30, 2, 0, 0, 0, []), (30, 31, 0, 3, 0, 0, []), (31, 34, 44, 0, 176, 2, [(0, 11)]), (34, 35, 35, 0, 0, 0, []), (35, 36, 2, 0, 0, 0, []), (36, 37, 0, 0, 0, 0, []), (37, 40, 25, 0, 24, 11, []), (40, 41, 2, 0, 0, 0, []), (41, 44, 24, 0, 6, 11, []), (44, 45, 0, 4, 0, 0, []), (45, 46, 2, 0, 0, 0, []), (46, 49, 24, 0, 13, 11, []), (49, 50, 8, 0, 2, 0, []), (50, 51, 0, 3, 0, 0, []), (51, 52, 8, 0, 0, 0, []), (52, 53, 2, 0, 0, 0, []), (53, 56, 24, 0, 18, 11, []), (56, 57, 27, 0, 0, 0, []), (57, 58, 2, 0, 0, 0, []), (58, 61, 44, 0, 175, 1, [(0, 11)]), (61, 62, 2, 0, 0, 0, []), (62, 65, 24, 0, 6, 11, []), (65, 66, 0, 4, 0, 0, []), (66, 67, 2, 0, 0, 0, []), (67, 70, 24, 0, 13, 11, []), (70, 71, 8, 0, 2, 0, []), (71, 72, 2, 0, 0, 0, []), (72, 75, 24, 0, 14, 11, []), (75, 76, 27, 0, 0, 0, []), (76, 77, 2, 0, 0, 0, []), (77, 80, 44, 0, 180, 1, [(0, 11)]), (80, 83, 19, 0, 85, 1, []), (83, 84, 0, 0, 0, 0, []), (84, 85, 35, 0, 0, 0, []), (85, 86, 2, 0, 0, 0, []), (86, 89, 24, 0, 6, 11, []), (89, 90, 0, 4, 0, 0, []), (90, 91, 2, 0, 0, 0, []), (91, 94, 24, 0, 13, 11, []), (94, 95, 8, 0, 2, 0, []), (95, 96, 0, 1, 0, 0, []), (96, 97, 8, 0, 0, 0, []), (97, 98, 2, 0, 0, 0, []), (98, 101, 24, 0, 14, 11, []), (101, 102, 27, 0, 0, 0, []), (102, 103, 2, 0, 0, 0, []), (103, 106, 24, 0, 18, 11, []), (106, 107, 0, 3, 0, 0, []), (107, 110, 20, 0, 123, 1, []), (110, 111, 2, 0, 0, 0, []), (111, 114, 44, 0, 175, 1, [(0, 11)]), (114, 115, 2, 0, 0, 0, []), (115, 118, 44, 0, 183, 1, [(0, 11)]), (118, 121, 19, 0, 123, 1, []), (121, 122, 0, 0, 0, 0, []), (122, 123, 35, 0, 0, 0, []), (123, 124, 2, 0, 0, 0, []), (124, 127, 24, 0, 6, 11, []), (127, 128, 0, 4, 0, 0, []), (128, 129, 2, 0, 0, 0, []), (129, 132, 24, 0, 13, 11, []), (132, 133, 8, 0, 2, 0, []), (133, 134, 0, 2, 0, 0, []), (134, 135, 8, 0, 0, 0, []), (135, 136, 2, 0, 0, 0, []), (136, 139, 24, 0, 14, 11, []), (139, 140, 27, 0, 0, 0, []), (140, 141, 2, 0, 0, 0, []), (141, 144, 0, 159, 0, 0, []), (144, 147, 44, 0, 177, 2, [(0, 11)]), (147, 148, 35, 0, 0, 0, [])]
set_option maxRecDepth 100000 in
theorem ok186 : k186.all (chk 186 (qbt 186) (qow 186)) = true := by decide +kernel
/-- ClayBootsModel.readsLaw()Z -/
def k187 : List En := [(0, 1, 2, 0, 0, 0, []), (1, 2, 0, 0, 0, 0, []), (2, 5, 25, 0, 13, 11, []), (5, 6, 2, 0, 0, 0, []), (6, 7, 0, 0, 0, 0, []), (7, 10, 25, 0, 14, 11, []), (10, 11, 0, 1, 0, 0, []), (11, 12, 4, 0, 1, 0, []), (12, 13, 1, 0, 1, 0, []), (13, 16, 19, 0, 49, 0, []), (16, 17, 2, 0, 0, 0, []), (17, 20, 24, 0, 18, 11, []), (20, 23, 19, 0, 49, 0, []), (23, 24, 2, 0, 0, 0, []), (24, 27, 44, 0, 186, 1, [(0, 11)]), (27, 28, 4, 0, 1, 0, []), (28, 29, 2, 0, 0, 0, []), (29, 30, 15, 0, 0, 0, []), (30, 33, 24, 0, 13, 11, []), (33, 34, 1, 0, 1, 0, []), (34, 37, 19, 0, 41, 0, []), (37, 38, 0, 1, 0, 0, []), (38, 41, 18, 0, 42, 0, []), (41, 42, 0, 0, 0, 0, []), (42, 43, 8, 0, 0, 0, []), (43, 46, 25, 0, 13, 11, []), (46, 49, 18, 0, 12, 0, []), (49, 50, 1, 0, 1, 0, []), (50, 51, 35, 0, 0, 0, [])]
set_option maxRecDepth 100000 in
theorem ok187 : k187.all (chk 187 (qbt 187) (qow 187)) = true := by decide +kernel
/-- ClayBootsModel.number(III)Z -/
def k188 : List En := [(0, 1, 2, 0, 0, 0, []), (1, 4, 24, 0, 18, 11, []), (4, 5, 0, 2, 0, 0, []), (5, 8, 20, 0, 14, 0, []), (8, 9, 2, 0, 0, 0, []), (9, 10, 0, 1, 0, 0, []), (10, 13, 44, 0, 176, 2, [(0, 11)]), (13, 14, 35, 0, 0, 0, []), (14, 15, 2, 0, 0, 0, []), (15, 18, 24, 0, 20, 11, []), (18, 19, 1, 0, 2, 0, []), (19, 20, 1, 0, 3, 0, []), (20, 23, 38, 0, 151, 3, []), (23, 26, 19, 0, 32, 1, []), (26, 27, 2, 0, 0, 0, []), (27, 28, 0, 2, 0, 0, []), (28, 31, 44, 0, 176, 2, [(0, 11)]), (31, 32, 35, 0, 0, 0, []), (32, 33, 2, 0, 0, 0, []), (33, 36, 24, 0, 8, 11, []), (36, 37, 1, 0, 1, 0, []), (37, 38, 2, 0, 0, 0, []), (38, 41, 24, 0, 20, 11, []), (41, 42, 27, 0, 0, 0, []), (42, 43, 2, 0, 0, 0, []), (43, 46, 44, 0, 175, 1, [(0, 11)]), (46, 47, 0, 1, 0, 0, []), (47, 48, 35, 0, 0, 0, [])]
set_option maxRecDepth 100000 in
theorem ok188 : k188.all (chk 188 (qbt 188) (qow 188)) = true := by decide +kernel
/-- ClayBootsModel.told(IIII)Z -/
def k189 : List En := [(0, 1, 2, 0, 0, 0, []), (1, 2, 1, 0, 2, 0, []), (2, 5, 44, 0, 177, 2, [(0, 11)]), (5, 8, 19, 0, 23, 0, []), (8, 9, 2, 0, 0, 0, []), (9, 10, 1, 0, 1, 0, []), (10, 11, 1, 0, 3, 0, []), (11, 13, 1, 0, 4, 0, []), (13, 16, 44, 0, 188, 4, [(0, 11)]), (16, 19, 19, 0, 23, 0, []), (19, 20, 0, 1, 0, 0, []), (20, 23, 18, 0, 24, 0, []), (23, 24, 0, 0, 0, 0, []), (24, 25, 35, 0, 0, 0, [])]
set_option maxRecDepth 100000 in
theorem ok189 : k189.all (chk 189 (qbt 189) (qow 189)) = true := by decide +kernel
/-- ClayBootsModel.fieldsGoOn(I)Z -/
def k190 : List En := [(0, 1, 2, 0, 0, 0, []), (1, 3, 0, 9, 0, 0, []), (3, 6, 44, 0, 177, 2, [(0, 11)]), (6, 9, 19, 0, 30, 0, []), (9, 10, 2, 0, 0, 0, []), (10, 11, 1, 0, 1, 0, []), (11, 12, 0, 3, 0, 0, []), (12, 13, 8, 0, 0, 0, []), (13, 14, 0, 0, 0, 0, []), (14, 15, 2, 0, 0, 0, []), (15, 18, 24, 0, 0, 11, []), (18, 21, 0, 229, 0, 0, []), (21, 22, 26, 0, 0, 0, []), (22, 23, 0, 1, 0, 0, []), (23, 24, 8, 0, 1, 0, []), (24, 27, 44, 0, 188, 4, [(0, 11)]), (27, 30, 19, 0, 32, 1, []), (30, 31, 0, 0, 0, 0, []), (31, 32, 35, 0, 0, 0, []), (32, 33, 0, 1, 0, 0, []), (33, 34, 4, 0, 2, 0, []), (34, 35, 2, 0, 0, 0, []), (35, 38, 24, 0, 18, 11, []), (38, 39, 0, 2, 0, 0, []), (39, 42, 20, 0, 112, 1, []), (42, 43, 2, 0, 0, 0, []), (43, 46, 24, 0, 20, 11, []), (46, 47, 0, 0, 0, 0, []), (47, 48, 2, 0, 0, 0, []), (48, 51, 24, 0, 0, 11, []), (51, 54, 0, 229, 0, 0, []), (54, 55, 26, 0, 0, 0, []), (55, 56, 0, 1, 0, 0, []), (56, 57, 8, 0, 1, 0, []), (57, 60, 38, 0, 151, 3, []), (60, 63, 19, 0, 69, 1, []), (63, 64, 2, 0, 0, 0, []), (64, 65, 0, 2, 0, 0, []), (65, 68, 44, 0, 176, 2, [(0, 11)]), (68, 69, 35, 0, 0, 0, []), (69, 70, 1, 0, 2, 0, []), (70, 72, 0, 6, 0, 0, []), (72, 75, 20, 0, 81, 1, []), (75, 76, 2, 0, 0, 0, []), (76, 77, 0, 3, 0, 0, []), (77, 80, 44, 0, 176, 2, [(0, 11)]), (80, 81, 35, 0, 0, 0, []), (81, 82, 2, 0, 0, 0, []), (82, 83, 1, 0, 1, 0, []), (83, 84, 0, 3, 0, 0, []), (84, 85, 8, 0, 0, 0, []), (85, 86, 1, 0, 2, 0, []), (86, 87, 8, 0, 0, 0, []), (87, 88, 0, 0, 0, 0, []), (88, 89, 2, 0, 0, 0, []), (89, 92, 24, 0, 0, 11, []), (92, 95, 0, 229, 0, 0, []), (95, 96, 26, 0, 0, 0, []), (96, 97, 0, 1, 0, 0, []), (97, 98, 8, 0, 1, 0, []), (98, 101, 44, 0, 188, 4, [(0, 11)]), (101, 104, 19, 0, 106, 1, []), (104, 105, 0, 0, 0, 0, []), (105, 106, 35, 0, 0, 0, []), (106, 109, 7, 1, 2, 0, []), (109, 112, 18, 0, 34, 0, []), (112, 113, 1, 0, 2, 0, []), (113, 114, 4, 0, 3, 0, []), (114, 115, 1, 0, 3, 0, []), (115, 117, 0, 6, 0, 0, []), (117, 120, 20, 0, 137, 3, []), (120, 121, 2, 0, 0, 0, []), (121, 124, 24, 0, 8, 11, []), (124, 125, 1, 0, 1, 0, []), (125, 126, 0, 3, 0, 0, []), (126, 127, 8, 0, 0, 0, []), (127, 128, 1, 0, 3, 0, []), (128, 129, 8, 0, 0, 0, []), (129, 130, 0, -1, 0, 0, []), (130, 131, 27, 0, 0, 0, []), (131, 134, 7, 1, 3, 0, []), (134, 137, 18, 0, 114, 0, []), (137, 138, 0, 1, 0, 0, []), (138, 139, 35, 0, 0, 0, [])]
set_option maxRecDepth 100000 in
theorem ok190 : k190.all (chk 190 (qbt 190) (qow 190)) = true := by decide +kernel
end
section
/-- ClayBootsModel.aCall()Z -/
def k191 : List En := [(0, 2, 0, 9, 0, 0, []), (2, 3, 2, 0, 0, 0, []), (3, 6, 24, 0, 15, 11, []), (6, 7, 8, 0, 2, 0, []), (7, 8, 4, 0, 1, 0, []), (8, 9, 2, 0, 0, 0, []), (9, 10, 1, 0, 1, 0, []), (10, 12, 0, 7, 0, 0, []), (12, 13, 0, 0, 0, 0, []), (13, 16, 0, 999, 0, 0, []), (16, 19, 44, 0, 189, 5, [(0, 11)]), (19, 22, 19, 0, 80, 0, []), (22, 23, 2, 0, 0, 0, []), (23, 24, 1, 0, 1, 0, []), (24, 25, 0, 1, 0, 0, []), (25, 26, 8, 0, 0, 0, []), (26, 28, 0, 8, 0, 0, []), (28, 29, 0, 0, 0, 0, []), (29, 30, 2, 0, 0, 0, []), (30, 33, 24, 0, 0, 11, []), (33, 36, 0, 231, 0, 0, []), (36, 37, 26, 0, 0, 0, []), (37, 38, 0, 1, 0, 0, []), (38, 39, 8, 0, 1, 0, []), (39, 42, 44, 0, 189, 5, [(0, 11)]), (42, 45, 19, 0, 80, 0, []), (45, 46, 2, 0, 0, 0, []), (46, 47, 1, 0, 1, 0, []), (47, 50, 44, 0, 190, 2, [(0, 11)]), (50, 53, 19, 0, 80, 0, []), (53, 54, 2, 0, 0, 0, []), (54, 55, 1, 0, 1, 0, []), (55, 56, 0, 2, 0, 0, []), (56, 57, 8, 0, 0, 0, []), (57, 59, 0, 10, 0, 0, []), (59, 60, 0, 0, 0, 0, []), (60, 61, 2, 0, 0, 0, []), (61, 64, 24, 0, 0, 11, []), (64, 67, 0, 230, 0, 0, []), (67, 68, 26, 0, 0, 0, []), (68, 69, 0, 1, 0, 0, []), (69, 70, 8, 0, 1, 0, []), (70, 73, 44, 0, 189, 5, [(0, 11)]), (73, 76, 19, 0, 80, 0, []), (76, 77, 0, 1, 0, 0, []), (77, 80, 18, 0, 81, 0, []), (80, 81, 0, 0, 0, 0, []), (81, 82, 35, 0, 0, 0, [])]
set_option maxRecDepth 100000 in
theorem ok191 : k191.all (chk 191 (qbt 191) (qow 191)) = true := by decide +kernel
/-- ClayBootsModel.aSky()Z -/
def k192 : List En := [(0, 1, 0, 3, 0, 0, []), (1, 2, 2, 0, 0, 0, []), (2, 5, 24, 0, 15, 11, []), (5, 6, 8, 0, 2, 0, []), (6, 7, 4, 0, 1, 0, []), (7, 8, 2, 0, 0, 0, []), (8, 9, 1, 0, 1, 0, []), (9, 11, 0, 7, 0, 0, []), (11, 12, 0, 0, 0, 0, []), (12, 15, 0, 999, 0, 0, []), (15, 18, 44, 0, 189, 5, [(0, 11)]), (18, 21, 19, 0, 23, 1, []), (21, 22, 0, 0, 0, 0, []), (22, 23, 35, 0, 0, 0, []), (23, 24, 2, 0, 0, 0, []), (24, 27, 24, 0, 18, 11, []), (27, 29, 0, 11, 0, 0, []), (29, 31, 0, 13, 0, 0, []), (31, 34, 38, 0, 151, 3, []), (34, 37, 19, 0, 43, 1, []), (37, 38, 2, 0, 0, 0, []), (38, 39, 0, 1, 0, 0, []), (39, 42, 44, 0, 176, 2, [(0, 11)]), (42, 43, 35, 0, 0, 0, []), (43, 44, 2, 0, 0, 0, []), (44, 47, 24, 0, 8, 11, []), (47, 48, 1, 0, 1, 0, []), (48, 49, 0, 1, 0, 0, []), (49, 50, 8, 0, 0, 0, []), (50, 51, 2, 0, 0, 0, []), (51, 54, 24, 0, 18, 11, []), (54, 55, 27, 0, 0, 0, []), (55, 56, 2, 0, 0, 0, []), (56, 59, 44, 0, 175, 1, [(0, 11)]), (59, 60, 2, 0, 0, 0, []), (60, 63, 24, 0, 8, 11, []), (63, 64, 1, 0, 1, 0, []), (64, 65, 0, 1, 0, 0, []), (65, 66, 8, 0, 0, 0, []), (66, 67, 26, 0, 0, 0, []), (67, 69, 0, 11, 0, 0, []), (69, 72, 20, 0, 85, 1, []), (72, 73, 2, 0, 0, 0, []), (73, 74, 1, 0, 1, 0, []), (74, 75, 0, 2, 0, 0, []), (75, 76, 8, 0, 0, 0, []), (76, 77, 0, 0, 0, 0, []), (77, 79, 0, 9, 0, 0, []), (79, 82, 44, 0, 188, 4, [(0, 11)]), (82, 85, 19, 0, 89, 0, []), (85, 86, 0, 1, 0, 0, []), (86, 89, 18, 0, 90, 0, []), (89, 90, 0, 0, 0, 0, []), (90, 91, 35, 0, 0, 0, [])]
set_option maxRecDepth 100000 in
theorem ok192 : k192.all (chk 192 (qbt 192) (qow 192)) = true := by decide +kernel
/-- ClayBootsModel.laysWay(III)V -/
def k193 : List En := [(0, 1, 2, 0, 0, 0, []), (1, 4, 24, 0, 8, 11, []), (4, 6, 0, 8, 0, 0, []), (6, 7, 1, 0, 1, 0, []), (7, 8, 8, 0, 2, 0, []), (8, 9, 1, 0, 2, 0, []), (9, 10, 8, 0, 0, 0, []), (10, 11, 2, 0, 0, 0, []), (11, 14, 24, 0, 8, 11, []), (14, 16, 0, 8, 0, 0, []), (16, 17, 1, 0, 1, 0, []), (17, 18, 8, 0, 2, 0, []), (18, 19, 1, 0, 2, 0, []), (19, 20, 8, 0, 0, 0, []), (20, 21, 26, 0, 0, 0, []), (21, 22, 0, -1, 0, 0, []), (22, 25, 20, 0, 29, 1, []), (25, 26, 1, 0, 3, 0, []), (26, 29, 18, 0, 44, 0, []), (29, 30, 1, 0, 3, 0, []), (30, 31, 2, 0, 0, 0, []), (31, 34, 24, 0, 8, 11, []), (34, 36, 0, 8, 0, 0, []), (36, 37, 1, 0, 1, 0, []), (37, 38, 8, 0, 2, 0, []), (38, 39, 1, 0, 2, 0, []), (39, 40, 8, 0, 0, 0, []), (40, 41, 26, 0, 0, 0, []), (41, 44, 38, 0, 152, 2, []), (44, 45, 27, 0, 0, 0, []), (45, 46, 37, 0, 0, 0, [])]
set_option maxRecDepth 100000 in
theorem ok193 : k193.all (chk 193 (qbt 193) (qow 193)) = true := by decide +kernel
/-- ClayBootsModel.aWay()Z -/
def k194 : List En := [(0, 1, 2, 0, 0, 0, []), (1, 3, 0, 100, 0, 0, []), (3, 5, 0, 14, 0, 0, []), (5, 6, 0, 0, 0, 0, []), (6, 7, 2, 0, 0, 0, []), (7, 10, 24, 0, 0, 11, []), (10, 13, 0, 230, 0, 0, []), (13, 14, 26, 0, 0, 0, []), (14, 15, 0, 1, 0, 0, []), (15, 16, 8, 0, 1, 0, []), (16, 19, 44, 0, 189, 5, [(0, 11)]), (19, 22, 19, 0, 31, 0, []), (22, 23, 2, 0, 0, 0, []), (23, 25, 0, 14, 0, 0, []), (25, 28, 44, 0, 177, 2, [(0, 11)]), (28, 31, 19, 0, 33, 1, []), (31, 32, 0, 0, 0, 0, []), (32, 33, 35, 0, 0, 0, []), (33, 34, 2, 0, 0, 0, []), (34, 37, 24, 0, 18, 11, []), (37, 38, 0, 2, 0, 0, []), (38, 41, 20, 0, 61, 1, []), (41, 42, 2, 0, 0, 0, []), (42, 45, 24, 0, 20, 11, []), (45, 46, 2, 0, 0, 0, []), (46, 49, 24, 0, 8, 11, []), (49, 51, 0, 100, 0, 0, []), (51, 52, 26, 0, 0, 0, []), (52, 55, 20, 0, 61, 1, []), (55, 56, 2, 0, 0, 0, []), (56, 57, 0, 2, 0, 0, []), (57, 60, 44, 0, 176, 2, [(0, 11)]), (60, 61, 35, 0, 0, 0, []), (61, 62, 2, 0, 0, 0, []), (62, 64, 0, 101, 0, 0, []), (64, 65, 0, 0, 0, 0, []), (65, 66, 2, 0, 0, 0, []), (66, 69, 24, 0, 0, 11, []), (69, 72, 0, 230, 0, 0, []), (72, 73, 26, 0, 0, 0, []), (73, 74, 0, 1, 0, 0, []), (74, 75, 8, 0, 1, 0, []), (75, 78, 44, 0, 188, 4, [(0, 11)]), (78, 81, 19, 0, 93, 0, []), (81, 82, 2, 0, 0, 0, []), (82, 84, 0, 102, 0, 0, []), (84, 85, 0, 1, 0, 0, []), (85, 87, 0, 99, 0, 0, []), (87, 90, 44, 0, 188, 4, [(0, 11)]), (90, 93, 19, 0, 95, 1, []), (93, 94, 0, 0, 0, 0, []), (94, 95, 35, 0, 0, 0, []), (95, 96, 2, 0, 0, 0, []), (96, 97, 2, 0, 0, 0, []), (97, 100, 24, 0, 8, 11, []), (100, 102, 0, 100, 0, 0, []), (102, 103, 26, 0, 0, 0, []), (103, 104, 2, 0, 0, 0, []), (104, 107, 24, 0, 8, 11, []), (107, 109, 0, 101, 0, 0, []), (109, 110, 26, 0, 0, 0, []), (110, 111, 2, 0, 0, 0, []), (111, 114, 24, 0, 8, 11, []), (114, 116, 0, 102, 0, 0, []), (116, 117, 26, 0, 0, 0, []), (117, 120, 44, 0, 193, 4, [(0, 11)]), (120, 121, 2, 0, 0, 0, []), (121, 122, 2, 0, 0, 0, []), (122, 125, 24, 0, 8, 11, []), (125, 127, 0, 101, 0, 0, []), (127, 128, 26, 0, 0, 0, []), (128, 129, 2, 0, 0, 0, []), (129, 132, 24, 0, 8, 11, []), (132, 134, 0, 100, 0, 0, []), (134, 135, 26, 0, 0, 0, []), (135, 136, 2, 0, 0, 0, []), (136, 139, 24, 0, 8, 11, []), (139, 141, 0, 102, 0, 0, []), (141, 142, 26, 0, 0, 0, []), (142, 145, 44, 0, 193, 4, [(0, 11)]), (145, 146, 0, 1, 0, 0, []), (146, 147, 35, 0, 0, 0, [])]
set_option maxRecDepth 100000 in
theorem ok194 : k194.all (chk 194 (qbt 194) (qow 194)) = true := by decide +kernel
/-- ClayBootsModel.aRow()Z -/
def k195 : List En := [(0, 1, 2, 0, 0, 0, []), (1, 4, 24, 0, 12, 11, []), (4, 5, 0, 1, 0, 0, []), (5, 8, 20, 0, 18, 1, []), (8, 9, 2, 0, 0, 0, []), (9, 12, 44, 0, 191, 1, [(0, 11)]), (12, 15, 19, 0, 57, 0, []), (15, 18, 18, 0, 43, 0, []), (18, 19, 2, 0, 0, 0, []), (19, 22, 24, 0, 12, 11, []), (22, 23, 0, 2, 0, 0, []), (23, 26, 20, 0, 36, 1, []), (26, 27, 2, 0, 0, 0, []), (27, 30, 44, 0, 192, 1, [(0, 11)]), (30, 33, 19, 0, 57, 0, []), (33, 36, 18, 0, 43, 0, []), (36, 37, 2, 0, 0, 0, []), (37, 40, 44, 0, 194, 1, [(0, 11)]), (40, 43, 19, 0, 57, 0, []), (43, 44, 2, 0, 0, 0, []), (44, 47, 0, 159, 0, 0, []), (47, 50, 44, 0, 177, 2, [(0, 11)]), (50, 53, 19, 0, 57, 0, []), (53, 54, 0, 1, 0, 0, []), (54, 57, 18, 0, 58, 0, []), (57, 58, 0, 0, 0, 0, []), (58, 59, 35, 0, 0, 0, [])]
set_option maxRecDepth 100000 in
theorem ok195 : k195.all (chk 195 (qbt 195) (qow 195)) = true := by decide +kernel
/-- ClayBootsModel.readsRows()Z -/
def k196 : List En := [(0, 1, 2, 0, 0, 0, []), (1, 2, 0, 0, 0, 0, []), (2, 5, 25, 0, 15, 11, []), (5, 6, 2, 0, 0, 0, []), (6, 9, 24, 0, 12, 11, []), (9, 10, 0, 3, 0, 0, []), (10, 13, 20, 0, 34, 1, []), (13, 14, 0, 0, 0, 0, []), (14, 15, 4, 0, 1, 0, []), (15, 16, 1, 0, 1, 0, []), (16, 18, 0, 64, 0, 0, []), (18, 21, 20, 0, 34, 3, []), (21, 22, 2, 0, 0, 0, []), (22, 25, 24, 0, 8, 11, []), (25, 26, 1, 0, 1, 0, []), (26, 27, 0, -1, 0, 0, []), (27, 28, 27, 0, 0, 0, []), (28, 31, 7, 1, 1, 0, []), (31, 34, 18, 0, 15, 0, []), (34, 35, 0, 1, 0, 0, []), (35, 36, 4, 0, 1, 0, []), (36, 37, 1, 0, 1, 0, []), (37, 40, 19, 0, 116, 0, []), (40, 41, 2, 0, 0, 0, []), (41, 44, 24, 0, 18, 11, []), (44, 47, 19, 0, 116, 0, []), (47, 48, 2, 0, 0, 0, []), (48, 51, 24, 0, 18, 11, []), (51, 52, 2, 0, 0, 0, []), (52, 55, 24, 0, 12, 11, []), (55, 56, 0, 3, 0, 0, []), (56, 59, 20, 0, 64, 1, []), (59, 61, 0, 14, 0, 0, []), (61, 64, 18, 0, 66, 0, []), (64, 66, 0, 7, 0, 0, []), (66, 69, 20, 0, 75, 0, []), (69, 70, 2, 0, 0, 0, []), (70, 71, 0, 1, 0, 0, []), (71, 74, 44, 0, 176, 2, [(0, 11)]), (74, 75, 35, 0, 0, 0, []), (75, 76, 2, 0, 0, 0, []), (76, 79, 24, 0, 15, 11, []), (79, 81, 0, 16, 0, 0, []), (81, 84, 20, 0, 90, 1, []), (84, 85, 2, 0, 0, 0, []), (85, 86, 0, 3, 0, 0, []), (86, 89, 44, 0, 176, 2, [(0, 11)]), (89, 90, 35, 0, 0, 0, []), (90, 91, 2, 0, 0, 0, []), (91, 94, 44, 0, 195, 1, [(0, 11)]), (94, 95, 4, 0, 1, 0, []), (95, 96, 2, 0, 0, 0, []), (96, 97, 15, 0, 0, 0, []), (97, 100, 24, 0, 15, 11, []), (100, 101, 1, 0, 1, 0, []), (101, 104, 19, 0, 108, 0, []), (104, 105, 0, 1, 0, 0, []), (105, 108, 18, 0, 109, 0, []), (108, 109, 0, 0, 0, 0, []), (109, 110, 8, 0, 0, 0, []), (110, 113, 25, 0, 15, 11, []), (113, 116, 18, 0, 36, 0, []), (116, 117, 1, 0, 1, 0, []), (117, 118, 35, 0, 0, 0, [])]
set_option maxRecDepth 100000 in
theorem ok196 : k196.all (chk 196 (qbt 196) (qow 196)) = true := by decide +kernel
/-- ClayBootsModel.putsLaw()I -/
def k197 : List En := [(0, 1, 2, 0, 0, 0, []), (1, 4, 24, 0, 0, 11, []), (4, 7, 0, 232, 0, 0, []), (7, 8, 2, 0, 0, 0, []), (8, 11, 24, 0, 13, 11, []), (11, 12, 27, 0, 0, 0, []), (12, 13, 0, 0, 0, 0, []), (13, 14, 4, 0, 1, 0, []), (14, 15, 1, 0, 1, 0, []), (15, 16, 2, 0, 0, 0, []), (16, 19, 24, 0, 13, 11, []), (19, 22, 20, 0, 106, 3, []), (22, 23, 2, 0, 0, 0, []), (23, 26, 24, 0, 0, 11, []), (26, 29, 0, 1245, 0, 0, []), (29, 30, 1, 0, 1, 0, []), (30, 31, 8, 0, 0, 0, []), (31, 32, 2, 0, 0, 0, []), (32, 35, 24, 0, 6, 11, []), (35, 36, 0, 4, 0, 0, []), (36, 37, 1, 0, 1, 0, []), (37, 38, 8, 0, 2, 0, []), (38, 39, 26, 0, 0, 0, []), (39, 40, 27, 0, 0, 0, []), (40, 41, 2, 0, 0, 0, []), (41, 44, 24, 0, 0, 11, []), (44, 47, 0, 1261, 0, 0, []), (47, 48, 1, 0, 1, 0, []), (48, 49, 8, 0, 0, 0, []), (49, 50, 2, 0, 0, 0, []), (50, 53, 24, 0, 6, 11, []), (53, 54, 0, 4, 0, 0, []), (54, 55, 1, 0, 1, 0, []), (55, 56, 8, 0, 2, 0, []), (56, 57, 0, 1, 0, 0, []), (57, 58, 8, 0, 0, 0, []), (58, 59, 26, 0, 0, 0, []), (59, 60, 27, 0, 0, 0, []), (60, 61, 2, 0, 0, 0, []), (61, 64, 24, 0, 0, 11, []), (64, 67, 0, 1277, 0, 0, []), (67, 68, 1, 0, 1, 0, []), (68, 69, 8, 0, 0, 0, []), (69, 70, 2, 0, 0, 0, []), (70, 73, 24, 0, 6, 11, []), (73, 74, 0, 4, 0, 0, []), (74, 75, 1, 0, 1, 0, []), (75, 76, 8, 0, 2, 0, []), (76, 77, 0, 2, 0, 0, []), (77, 78, 8, 0, 0, 0, []), (78, 79, 26, 0, 0, 0, []), (79, 80, 27, 0, 0, 0, []), (80, 81, 2, 0, 0, 0, []), (81, 84, 24, 0, 0, 11, []), (84, 87, 0, 1293, 0, 0, []), (87, 88, 1, 0, 1, 0, []), (88, 89, 8, 0, 0, 0, []), (89, 90, 2, 0, 0, 0, []), (90, 93, 24, 0, 6, 11, []), (93, 94, 0, 4, 0, 0, []), (94, 95, 1, 0, 1, 0, []), (95, 96, 8, 0, 2, 0, []), (96, 97, 0, 3, 0, 0, []), (97, 98, 8, 0, 0, 0, []), (98, 99, 26, 0, 0, 0, []), (99, 100, 27, 0, 0, 0, []), (100, 103, 7, 1, 1, 0, []), (103, 106, 18, 0, 14, 0, []), (106, 107, 0, 0, 0, 0, []), (107, 108, 4, 0, 1, 0, []), (108, 109, 1, 0, 1, 0, []), (109, 110, 0, 2, 0, 0, []), (110, 111, 2, 0, 0, 0, []), (111, 114, 24, 0, 14, 11, []), (114, 115, 8, 0, 2, 0, []), (115, 118, 20, 0, 140, 3, []), (118, 119, 2, 0, 0, 0, []), (119, 122, 24, 0, 0, 11, []), (122, 125, 0, 1309, 0, 0, []), (125, 126, 1, 0, 1, 0, []), (126, 127, 8, 0, 0, 0, []), (127, 128, 2, 0, 0, 0, []), (128, 131, 24, 0, 7, 11, []), (131, 132, 1, 0, 1, 0, []), (132, 133, 26, 0, 0, 0, []), (133, 134, 27, 0, 0, 0, []), (134, 137, 7, 1, 1, 0, []), (137, 140, 18, 0, 108, 0, []), (140, 141, 2, 0, 0, 0, []), (141, 144, 24, 0, 13, 11, []), (144, 145, 34, 0, 0, 0, [])]
set_option maxRecDepth 100000 in
theorem ok197 : k197.all (chk 197 (qbt 197) (qow 197)) = true := by decide +kernel
/-- ClayBootsModel.puts(III)I -/
def k198 : List En := [(0, 1, 2, 0, 0, 0, []), (1, 4, 24, 0, 0, 11, []), (4, 5, 1, 0, 1, 0, []), (5, 6, 2, 0, 0, 0, []), (6, 9, 24, 0, 15, 11, []), (9, 10, 27, 0, 0, 0, []), (10, 11, 0, 0, 0, 0, []), (11, 13, 4, 0, 4, 0, []), (13, 15, 1, 0, 4, 0, []), (15, 16, 1, 0, 3, 0, []), (16, 19, 20, 0, 41, 3, []), (19, 20, 2, 0, 0, 0, []), (20, 23, 24, 0, 0, 11, []), (23, 24, 1, 0, 2, 0, []), (24, 26, 1, 0, 4, 0, []), (26, 27, 8, 0, 0, 0, []), (27, 28, 2, 0, 0, 0, []), (28, 31, 24, 0, 8, 11, []), (31, 33, 1, 0, 4, 0, []), (33, 34, 26, 0, 0, 0, []), (34, 35, 27, 0, 0, 0, []), (35, 38, 7, 1, 4, 0, []), (38, 41, 18, 0, 13, 0, []), (41, 42, 2, 0, 0, 0, []), (42, 45, 24, 0, 15, 11, []), (45, 46, 34, 0, 0, 0, [])]
set_option maxRecDepth 100000 in
theorem ok198 : k198.all (chk 198 (qbt 198) (qow 198)) = true := by decide +kernel
/-- ClayBootsModel.putsText(I)I -/
def k199 : List En := [(0, 1, 1, 0, 1, 0, []), (1, 4, 19, 0, 9, 1, []), (4, 5, 2, 0, 0, 0, []), (5, 8, 44, 0, 197, 1, [(0, 11)]), (8, 9, 34, 0, 0, 0, []), (9, 10, 1, 0, 1, 0, []), (10, 11, 0, 3, 0, 0, []), (11, 14, 20, 0, 27, 1, []), (14, 15, 2, 0, 0, 0, []), (15, 18, 0, 235, 0, 0, []), (18, 21, 0, 479, 0, 0, []), (21, 23, 0, 64, 0, 0, []), (23, 26, 44, 0, 198, 4, [(0, 11)]), (26, 27, 34, 0, 0, 0, []), (27, 28, 2, 0, 0, 0, []), (28, 31, 44, 0, 159, 1, [(0, 11)]), (31, 32, 1, 0, 1, 0, []), (32, 33, 0, 1, 0, 0, []), (33, 36, 20, 0, 56, 1, []), (36, 37, 2, 0, 0, 0, []), (37, 40, 0, 233, 0, 0, []), (40, 43, 0, 287, 0, 0, []), (43, 45, 0, 9, 0, 0, []), (45, 46, 2, 0, 0, 0, []), (46, 49, 24, 0, 15, 11, []), (49, 50, 8, 0, 2, 0, []), (50, 53, 44, 0, 198, 4, [(0, 11)]), (53, 56, 18, 0, 72, 0, []), (56, 57, 2, 0, 0, 0, []), (57, 60, 0, 234, 0, 0, []), (60, 63, 0, 431, 0, 0, []), (63, 64, 0, 3, 0, 0, []), (64, 65, 2, 0, 0, 0, []), (65, 68, 24, 0, 15, 11, []), (68, 69, 8, 0, 2, 0, []), (69, 72, 44, 0, 198, 4, [(0, 11)]), (72, 73, 34, 0, 0, 0, [])]
set_option maxRecDepth 100000 in
theorem ok199 : k199.all (chk 199 (qbt 199) (qow 199)) = true := by decide +kernel
/-- ClayBootsModel.text(I)I -/
def k200 : List En := [(0, 1, 2, 0, 0, 0, []), (1, 2, 0, 0, 0, 0, []), (2, 5, 25, 0, 23, 11, []), (5, 6, 2, 0, 0, 0, []), (6, 7, 0, -1, 0, 0, []), (7, 10, 25, 0, 25, 11, []), (10, 11, 1, 0, 1, 0, []), (11, 12, 0, 0, 0, 0, []), (12, 13, 0, 3, 0, 0, []), (13, 16, 38, 0, 151, 3, []), (16, 19, 19, 0, 26, 1, []), (19, 20, 2, 0, 0, 0, []), (20, 21, 0, 0, 0, 0, []), (21, 24, 25, 0, 16, 11, []), (24, 25, 0, -1, 0, 0, []), (25, 26, 34, 0, 0, 0, []), (26, 27, 2, 0, 0, 0, []), (27, 28, 0, 0, 0, 0, []), (28, 31, 25, 0, 21, 11, []), (31, 32, 2, 0, 0, 0, []), (32, 33, 0, 0, 0, 0, []), (33, 36, 25, 0, 17, 11, []), (36, 37, 2, 0, 0, 0, []), (37, 38, 1, 0, 1, 0, []), (38, 41, 25, 0, 12, 11, []), (41, 42, 2, 0, 0, 0, []), (42, 45, 44, 0, 175, 1, [(0, 11)]), (45, 46, 1, 0, 1, 0, []), (46, 49, 19, 0, 56, 1, []), (49, 50, 2, 0, 0, 0, []), (50, 53, 44, 0, 187, 1, [(0, 11)]), (53, 56, 18, 0, 60, 0, []), (56, 57, 2, 0, 0, 0, []), (57, 60, 44, 0, 196, 1, [(0, 11)]), (60, 61, 4, 0, 2, 0, []), (61, 62, 2, 0, 0, 0, []), (62, 63, 0, 0, 0, 0, []), (63, 66, 25, 0, 16, 11, []), (66, 67, 1, 0, 2, 0, []), (67, 70, 19, 0, 76, 0, []), (70, 71, 2, 0, 0, 0, []), (71, 72, 1, 0, 1, 0, []), (72, 75, 44, 0, 199, 2, [(0, 11)]), (75, 76, 34, 0, 0, 0, []), (76, 77, 2, 0, 0, 0, []), (77, 78, 2, 0, 0, 0, []), (78, 81, 24, 0, 21, 11, []), (81, 84, 25, 0, 23, 11, []), (84, 85, 2, 0, 0, 0, []), (85, 86, 2, 0, 0, 0, []), (86, 89, 24, 0, 22, 11, []), (89, 92, 25, 0, 25, 11, []), (92, 93, 0, -1, 0, 0, []), (93, 94, 34, 0, 0, 0, [])]
set_option maxRecDepth 100000 in
theorem ok200 : k200.all (chk 200 (qbt 200) (qow 200)) = true := by decide +kernel
/-- ClayBootsModel.fault(I)I -/
def k201 : List En := [(0, 1, 1, 0, 1, 0, []), (1, 4, 19, 0, 11, 1, []), (4, 5, 2, 0, 0, 0, []), (5, 8, 24, 0, 23, 11, []), (8, 11, 18, 0, 24, 0, []), (11, 12, 1, 0, 1, 0, []), (12, 13, 0, 1, 0, 0, []), (13, 16, 20, 0, 23, 1, []), (16, 17, 2, 0, 0, 0, []), (17, 20, 24, 0, 25, 11, []), (20, 23, 18, 0, 24, 0, []), (23, 24, 0, -1, 0, 0, []), (24, 25, 34, 0, 0, 0, [])]
set_option maxRecDepth 100000 in
theorem ok201 : k201.all (chk 201 (qbt 201) (qow 201)) = true := by decide +kernel
/-- ClayBootsModel.both(III)I -/
def k202 : List En := [(0, 1, 1, 0, 0, 0, []), (1, 52, 23, 0, 101, 0, [(23, 52), (24, 56), (25, 60), (26, 101), (27, 64), (28, 75), (29, 86), (30, 101), (31, 97)]), (52, 53, 1, 0, 1, 0, []), (53, 54, 1, 0, 2, 0, []), (54, 55, 8, 0, 0, 0, []), (55, 56, 34, 0, 0, 0, []), (56, 57, 1, 0, 1, 0, []), (57, 58, 1, 0, 2, 0, []), (58, 59, 8, 0, 1, 0, []), (59, 60, 34, 0, 0, 0, []), (60, 61, 1, 0, 1, 0, []), (61, 62, 1, 0, 2, 0, []), (62, 63, 8, 0, 2, 0, []), (63, 64, 34, 0, 0, 0, []), (64, 65, 1, 0, 1, 0, []), (65, 66, 1, 0, 2, 0, []), (66, 69, 20, 0, 73, 3, []), (69, 70, 0, 1, 0, 0, []), (70, 73, 18, 0, 74, 0, []), (73, 74, 0, 0, 0, 0, []), (74, 75, 34, 0, 0, 0, []), (75, 76, 1, 0, 1, 0, []), (76, 77, 1, 0, 2, 0, []), (77, 80, 20, 0, 84, 1, []), (80, 81, 0, 1, 0, 0, []), (81, 84, 18, 0, 85, 0, []), (84, 85, 0, 0, 0, 0, []), (85, 86, 34, 0, 0, 0, []), (86, 87, 1, 0, 1, 0, []), (87, 88, 1, 0, 2, 0, []), (88, 91, 20, 0, 95, 5, []), (91, 92, 0, 1, 0, 0, []), (92, 95, 18, 0, 96, 0, []), (95, 96, 0, 0, 0, 0, []), (96, 97, 34, 0, 0, 0, []), (97, 98, 1, 0, 1, 0, []), (98, 99, 1, 0, 2, 0, []), (99, 100, 8, 0, 3, 0, []), (100, 101, 34, 0, 0, 0, []), (101, 102, 1, 0, 1, 0, []), (102, 103, 1, 0, 2, 0, []), (103, 104, 8, 0, 4, 0, []), (104, 105, 34, 0, 0, 0, [])]
set_option maxRecDepth 100000 in
theorem ok202 : k202.all (chk 202 (qbt 202) (qow 202)) = true := by decide +kernel
/-- ClayBootsModel.comesTo(III)I -/
def k203 : List En := [(0, 1, 0, 0, 0, 0, []), (1, 3, 4, 0, 4, 0, []), (3, 4, 1, 0, 2, 0, []), (4, 6, 4, 0, 5, 0, []), (6, 8, 1, 0, 5, 0, []), (8, 9, 1, 0, 3, 0, []), (9, 12, 20, 0, 186, 3, []), (12, 13, 2, 0, 0, 0, []), (13, 16, 24, 0, 0, 11, []), (16, 19, 0, 1309, 0, 0, []), (19, 22, 0, 820, 0, 0, []), (22, 23, 1, 0, 1, 0, []), (23, 24, 8, 0, 2, 0, []), (24, 25, 8, 0, 0, 0, []), (25, 26, 0, 2, 0, 0, []), (26, 28, 1, 0, 5, 0, []), (28, 29, 8, 0, 2, 0, []), (29, 30, 8, 0, 0, 0, []), (30, 31, 26, 0, 0, 0, []), (31, 33, 4, 0, 6, 0, []), (33, 34, 2, 0, 0, 0, []), (34, 37, 24, 0, 0, 11, []), (37, 40, 0, 1309, 0, 0, []), (40, 43, 0, 820, 0, 0, []), (43, 44, 1, 0, 1, 0, []), (44, 45, 8, 0, 2, 0, []), (45, 46, 8, 0, 0, 0, []), (46, 47, 0, 2, 0, 0, []), (47, 49, 1, 0, 5, 0, []), (49, 50, 8, 0, 2, 0, []), (50, 51, 8, 0, 0, 0, []), (51, 52, 0, 1, 0, 0, []), (52, 53, 8, 0, 0, 0, []), (53, 54, 26, 0, 0, 0, []), (54, 56, 4, 0, 7, 0, []), (56, 58, 1, 0, 6, 0, []), (58, 60, 0, 23, 0, 0, []), (60, 63, 20, 0, 93, 3, []), (63, 64, 2, 0, 0, 0, []), (64, 67, 24, 0, 10, 11, []), (67, 69, 1, 0, 4, 0, []), (69, 71, 1, 0, 6, 0, []), (71, 74, 19, 0, 79, 1, []), (74, 76, 1, 0, 7, 0, []), (76, 79, 18, 0, 86, 0, []), (79, 80, 2, 0, 0, 0, []), (80, 83, 24, 0, 11, 11, []), (83, 85, 1, 0, 6, 0, []), (85, 86, 26, 0, 0, 0, []), (86, 87, 27, 0, 0, 0, []), (87, 90, 7, 1, 4, 0, []), (90, 93, 18, 0, 180, 0, []), (93, 95, 1, 0, 6, 0, []), (95, 97, 0, 26, 0, 0, []), (97, 100, 20, 0, 117, 1, []), (100, 101, 2, 0, 0, 0, []), (101, 104, 24, 0, 10, 11, []), (104, 106, 1, 0, 4, 0, []), (106, 107, 0, 1, 0, 0, []), (107, 108, 8, 0, 1, 0, []), (108, 109, 16, 0, 0, 0, []), (109, 110, 26, 0, 0, 0, []), (110, 112, 1, 0, 7, 0, []), (112, 113, 9, 0, 0, 0, []), (113, 114, 27, 0, 0, 0, []), (114, 117, 18, 0, 180, 0, []), (117, 119, 1, 0, 6, 0, []), (119, 121, 0, 30, 0, 0, []), (121, 124, 20, 0, 147, 1, []), (124, 125, 2, 0, 0, 0, []), (125, 128, 24, 0, 10, 11, []), (128, 130, 1, 0, 4, 0, []), (130, 131, 0, 1, 0, 0, []), (131, 132, 8, 0, 1, 0, []), (132, 133, 0, 1, 0, 0, []), (133, 134, 2, 0, 0, 0, []), (134, 137, 24, 0, 10, 11, []), (137, 139, 1, 0, 4, 0, []), (139, 140, 0, 1, 0, 0, []), (140, 141, 8, 0, 1, 0, []), (141, 142, 26, 0, 0, 0, []), (142, 143, 8, 0, 1, 0, []), (143, 144, 27, 0, 0, 0, []), (144, 147, 18, 0, 180, 0, []), (147, 150, 7, -1, 4, 0, []), (150, 151, 2, 0, 0, 0, []), (151, 154, 24, 0, 10, 11, []), (154, 156, 1, 0, 4, 0, []), (156, 157, 0, 1, 0, 0, []), (157, 158, 8, 0, 1, 0, []), (158, 160, 1, 0, 6, 0, []), (160, 161, 2, 0, 0, 0, []), (161, 164, 24, 0, 10, 11, []), (164, 166, 1, 0, 4, 0, []), (166, 167, 0, 1, 0, 0, []), (167, 168, 8, 0, 1, 0, []), (168, 169, 26, 0, 0, 0, []), (169, 170, 2, 0, 0, 0, []), (170, 173, 24, 0, 10, 11, []), (173, 175, 1, 0, 4, 0, []), (175, 176, 26, 0, 0, 0, []), (176, 179, 38, 0, 202, 3, []), (179, 180, 27, 0, 0, 0, []), (180, 183, 7, 1, 5, 0, []), (183, 186, 18, 0, 6, 0, []), (186, 187, 2, 0, 0, 0, []), (187, 190, 24, 0, 10, 11, []), (190, 191, 0, 0, 0, 0, []), (191, 192, 26, 0, 0, 0, []), (192, 193, 34, 0, 0, 0, [])]
set_option maxRecDepth 100000 in
theorem ok203 : k203.all (chk 203 (qbt 203) (qow 203)) = true := by decide +kernel
/-- ClayBootsModel.isSo(I)Z -/
def k204 : List En := [(0, 1, 2, 0, 0, 0, []), (1, 4, 24, 0, 0, 11, []), (4, 7, 0, 1277, 0, 0, []), (7, 8, 1, 0, 1, 0, []), (8, 9, 8, 0, 0, 0, []), (9, 10, 26, 0, 0, 0, []), (10, 11, 2, 0, 0, 0, []), (11, 14, 24, 0, 0, 11, []), (14, 17, 0, 1261, 0, 0, []), (17, 18, 1, 0, 1, 0, []), (18, 19, 8, 0, 0, 0, []), (19, 20, 26, 0, 0, 0, []), (20, 23, 20, 0, 52, 0, []), (23, 24, 2, 0, 0, 0, []), (24, 25, 0, 0, 0, 0, []), (25, 26, 2, 0, 0, 0, []), (26, 29, 24, 0, 0, 11, []), (29, 32, 0, 1261, 0, 0, []), (32, 33, 1, 0, 1, 0, []), (33, 34, 8, 0, 0, 0, []), (34, 35, 26, 0, 0, 0, []), (35, 36, 2, 0, 0, 0, []), (36, 39, 24, 0, 0, 11, []), (39, 42, 0, 1277, 0, 0, []), (42, 43, 1, 0, 1, 0, []), (43, 44, 8, 0, 0, 0, []), (44, 45, 26, 0, 0, 0, []), (45, 48, 44, 0, 203, 4, [(0, 11)]), (48, 49, 0, 1, 0, 0, []), (49, 52, 20, 0, 56, 1, []), (52, 53, 0, 1, 0, 0, []), (53, 56, 18, 0, 57, 0, []), (56, 57, 0, 0, 0, 0, []), (57, 58, 35, 0, 0, 0, [])]
set_option maxRecDepth 100000 in
theorem ok204 : k204.all (chk 204 (qbt 204) (qow 204)) = true := by decide +kernel
/-- ClayBootsModel.says(III)I -/
def k205 : List En := [(0, 1, 1, 0, 2, 0, []), (1, 3, 4, 0, 4, 0, []), (3, 4, 0, 0, 0, 0, []), (4, 6, 4, 0, 5, 0, []), (6, 8, 1, 0, 5, 0, []), (8, 9, 2, 0, 0, 0, []), (9, 12, 24, 0, 0, 11, []), (12, 15, 0, 232, 0, 0, []), (15, 16, 26, 0, 0, 0, []), (16, 19, 20, 0, 49, 3, []), (19, 20, 2, 0, 0, 0, []), (20, 23, 24, 0, 0, 11, []), (23, 26, 0, 1293, 0, 0, []), (26, 28, 1, 0, 5, 0, []), (28, 29, 8, 0, 0, 0, []), (29, 30, 26, 0, 0, 0, []), (30, 31, 1, 0, 1, 0, []), (31, 34, 20, 0, 43, 1, []), (34, 35, 2, 0, 0, 0, []), (35, 37, 1, 0, 5, 0, []), (37, 40, 44, 0, 204, 2, [(0, 11)]), (40, 43, 19, 0, 49, 1, []), (43, 46, 7, 1, 5, 0, []), (46, 49, 18, 0, 6, 0, []), (49, 51, 1, 0, 5, 0, []), (51, 52, 2, 0, 0, 0, []), (52, 55, 24, 0, 0, 11, []), (55, 58, 0, 232, 0, 0, []), (58, 59, 26, 0, 0, 0, []), (59, 62, 20, 0, 91, 3, []), (62, 63, 2, 0, 0, 0, []), (63, 64, 0, 0, 0, 0, []), (64, 65, 2, 0, 0, 0, []), (65, 68, 24, 0, 0, 11, []), (68, 71, 0, 1245, 0, 0, []), (71, 73, 1, 0, 5, 0, []), (73, 74, 8, 0, 0, 0, []), (74, 75, 26, 0, 0, 0, []), (75, 76, 2, 0, 0, 0, []), (76, 79, 24, 0, 0, 11, []), (79, 82, 0, 1261, 0, 0, []), (82, 84, 1, 0, 5, 0, []), (84, 85, 8, 0, 0, 0, []), (85, 86, 26, 0, 0, 0, []), (86, 89, 44, 0, 203, 4, [(0, 11)]), (89, 91, 4, 0, 4, 0, []), (91, 92, 0, 0, 0, 0, []), (92, 93, 1, 0, 3, 0, []), (93, 95, 1, 0, 4, 0, []), (95, 98, 38, 0, 152, 2, []), (98, 101, 38, 0, 153, 2, []), (101, 102, 34, 0, 0, 0, [])]
set_option maxRecDepth 100000 in
theorem ok205 : k205.all (chk 205 (qbt 205) (qow 205)) = true := by decide +kernel
/-- ClayBootsModel.load(I)I -/
def k206 : List En := [(0, 1, 0, 0, 0, 0, []), (1, 2, 4, 0, 2, 0, []), (2, 3, 0, 0, 0, 0, []), (3, 4, 4, 0, 3, 0, []), (4, 5, 1, 0, 3, 0, []), (5, 7, 0, 10, 0, 0, []), (7, 10, 20, 0, 33, 3, []), (10, 11, 1, 0, 2, 0, []), (11, 12, 2, 0, 0, 0, []), (12, 15, 24, 0, 0, 11, []), (15, 17, 0, 109, 0, 0, []), (17, 19, 0, 10, 0, 0, []), (19, 20, 1, 0, 1, 0, []), (20, 21, 8, 0, 2, 0, []), (21, 22, 8, 0, 0, 0, []), (22, 23, 1, 0, 3, 0, []), (23, 24, 8, 0, 0, 0, []), (24, 25, 26, 0, 0, 0, []), (25, 26, 8, 0, 0, 0, []), (26, 27, 4, 0, 2, 0, []), (27, 30, 7, 1, 3, 0, []), (30, 33, 18, 0, 4, 0, []), (33, 34, 1, 0, 2, 0, []), (34, 35, 34, 0, 0, 0, [])]
set_option maxRecDepth 100000 in
theorem ok206 : k206.all (chk 206 (qbt 206) (qow 206)) = true := by decide +kernel
/-- ClayBootsModel.asks(III)V -/
def k207 : List En := [(0, 1, 2, 0, 0, 0, []), (1, 4, 24, 0, 11, 11, []), (4, 5, 0, 1, 0, 0, []), (5, 6, 2, 0, 0, 0, []), (6, 9, 24, 0, 0, 11, []), (9, 12, 0, 263, 0, 0, []), (12, 13, 1, 0, 1, 0, []), (13, 14, 8, 0, 0, 0, []), (14, 15, 26, 0, 0, 0, []), (15, 16, 27, 0, 0, 0, []), (16, 17, 2, 0, 0, 0, []), (17, 20, 24, 0, 11, 11, []), (20, 21, 0, 2, 0, 0, []), (21, 22, 2, 0, 0, 0, []), (22, 25, 24, 0, 0, 11, []), (25, 28, 0, 275, 0, 0, []), (28, 29, 1, 0, 1, 0, []), (29, 30, 8, 0, 0, 0, []), (30, 31, 26, 0, 0, 0, []), (31, 32, 27, 0, 0, 0, []), (32, 33, 2, 0, 0, 0, []), (33, 36, 24, 0, 11, 11, []), (36, 37, 0, 3, 0, 0, []), (37, 38, 1, 0, 2, 0, []), (38, 39, 0, -1, 0, 0, []), (39, 42, 20, 0, 46, 1, []), (42, 43, 0, 0, 0, 0, []), (43, 46, 18, 0, 56, 0, []), (46, 47, 2, 0, 0, 0, []), (47, 50, 24, 0, 0, 11, []), (50, 53, 0, 241, 0, 0, []), (53, 54, 1, 0, 2, 0, []), (54, 55, 8, 0, 0, 0, []), (55, 56, 26, 0, 0, 0, []), (56, 57, 27, 0, 0, 0, []), (57, 58, 2, 0, 0, 0, []), (58, 61, 24, 0, 11, 11, []), (61, 62, 0, 4, 0, 0, []), (62, 63, 1, 0, 2, 0, []), (63, 64, 0, -1, 0, 0, []), (64, 67, 20, 0, 71, 1, []), (67, 68, 0, 0, 0, 0, []), (68, 71, 18, 0, 80, 0, []), (71, 72, 2, 0, 0, 0, []), (72, 75, 24, 0, 0, 11, []), (75, 77, 0, 7, 0, 0, []), (77, 78, 1, 0, 2, 0, []), (78, 79, 8, 0, 0, 0, []), (79, 80, 26, 0, 0, 0, []), (80, 81, 27, 0, 0, 0, []), (81, 82, 2, 0, 0, 0, []), (82, 85, 24, 0, 11, 11, []), (85, 86, 0, 5, 0, 0, []), (86, 87, 2, 0, 0, 0, []), (87, 88, 1, 0, 1, 0, []), (88, 91, 44, 0, 206, 2, [(0, 11)]), (91, 92, 27, 0, 0, 0, []), (92, 93, 2, 0, 0, 0, []), (93, 96, 24, 0, 11, 11, []), (96, 98, 0, 6, 0, 0, []), (98, 99, 2, 0, 0, 0, []), (99, 102, 24, 0, 0, 11, []), (102, 103, 0, 0, 0, 0, []), (103, 104, 26, 0, 0, 0, []), (104, 105, 27, 0, 0, 0, []), (105, 106, 2, 0, 0, 0, []), (106, 109, 24, 0, 11, 11, []), (109, 111, 0, 7, 0, 0, []), (111, 112, 2, 0, 0, 0, []), (112, 115, 24, 0, 0, 11, []), (115, 116, 0, 1, 0, 0, []), (116, 117, 26, 0, 0, 0, []), (117, 118, 27, 0, 0, 0, []), (118, 119, 2, 0, 0, 0, []), (119, 122, 24, 0, 11, 11, []), (122, 124, 0, 8, 0, 0, []), (124, 125, 1, 0, 3, 0, []), (125, 126, 27, 0, 0, 0, []), (126, 127, 2, 0, 0, 0, []), (127, 130, 24, 0, 11, 11, []), (130, 132, 0, 9, 0, 0, []), (132, 133, 2, 0, 0, 0, []), (133, 136, 24, 0, 0, 11, []), (136, 138, 0, 17, 0, 0, []), (138, 139, 1, 0, 1, 0, []), (139, 140, 8, 0, 0, 0, []), (140, 141, 26, 0, 0, 0, []), (141, 142, 27, 0, 0, 0, []), (142, 143, 2, 0, 0, 0, []), (143, 146, 24, 0, 11, 11, []), (146, 148, 0, 10, 0, 0, []), (148, 149, 2, 0, 0, 0, []), (149, 152, 24, 0, 0, 11, []), (152, 153, 0, 3, 0, 0, []), (153, 154, 26, 0, 0, 0, []), (154, 155, 27, 0, 0, 0, []), (155, 156, 37, 0, 0, 0, [])]
set_option maxRecDepth 100000 in
theorem ok207 : k207.all (chk 207 (qbt 207) (qow 207)) = true := by decide +kernel
/-- ClayBootsModel.takesOf(II)I -/
def k208 : List En := [(0, 1, 2, 0, 0, 0, []), (1, 2, 1, 0, 1, 0, []), (2, 3, 1, 0, 2, 0, []), (3, 4, 0, 0, 0, 0, []), (4, 7, 44, 0, 207, 4, [(0, 11)]), (7, 8, 2, 0, 0, 0, []), (8, 10, 0, 20, 0, 0, []), (10, 11, 2, 0, 0, 0, []), (11, 14, 24, 0, 0, 11, []), (14, 17, 0, 263, 0, 0, []), (17, 18, 1, 0, 1, 0, []), (18, 19, 8, 0, 0, 0, []), (19, 20, 26, 0, 0, 0, []), (20, 21, 2, 0, 0, 0, []), (21, 24, 24, 0, 0, 11, []), (24, 25, 0, 0, 0, 0, []), (25, 26, 26, 0, 0, 0, []), (26, 27, 8, 0, 0, 0, []), (27, 29, 0, 99, 0, 0, []), (29, 32, 44, 0, 205, 4, [(0, 11)]), (32, 33, 34, 0, 0, 0, [])]
set_option maxRecDepth 100000 in
theorem ok208 : k208.all (chk 208 (qbt 208) (qow 208)) = true := by decide +kernel
/-- ClayBootsModel.leavesOf(III)I -/
def k209 : List En := [(0, 1, 2, 0, 0, 0, []), (1, 2, 1, 0, 1, 0, []), (2, 3, 1, 0, 2, 0, []), (3, 4, 2, 0, 0, 0, []), (4, 5, 1, 0, 3, 0, []), (5, 8, 44, 0, 158, 2, [(0, 11)]), (8, 11, 19, 0, 15, 0, []), (11, 12, 0, 1, 0, 0, []), (12, 15, 18, 0, 16, 0, []), (15, 16, 0, 0, 0, 0, []), (16, 19, 44, 0, 207, 4, [(0, 11)]), (19, 20, 2, 0, 0, 0, []), (20, 22, 0, 21, 0, 0, []), (22, 25, 0, 500, 0, 0, []), (25, 28, 0, 1000, 0, 0, []), (28, 31, 44, 0, 205, 4, [(0, 11)]), (31, 32, 34, 0, 0, 0, [])]
set_option maxRecDepth 100000 in
theorem ok209 : k209.all (chk 209 (qbt 209) (qow 209)) = true := by decide +kernel
/-- ClayBootsModel.straysOf(II)I -/
def k210 : List En := [(0, 1, 2, 0, 0, 0, []), (1, 2, 1, 0, 1, 0, []), (2, 3, 0, -1, 0, 0, []), (3, 4, 2, 0, 0, 0, []), (4, 5, 1, 0, 2, 0, []), (5, 8, 44, 0, 158, 2, [(0, 11)]), (8, 11, 19, 0, 15, 0, []), (11, 12, 0, 1, 0, 0, []), (12, 15, 18, 0, 16, 0, []), (15, 16, 0, 0, 0, 0, []), (16, 19, 44, 0, 207, 4, [(0, 11)]), (19, 20, 2, 0, 0, 0, []), (20, 22, 0, 22, 0, 0, []), (22, 23, 0, 0, 0, 0, []), (23, 26, 0, 1000, 0, 0, []), (26, 29, 44, 0, 205, 4, [(0, 11)]), (29, 30, 34, 0, 0, 0, [])]
set_option maxRecDepth 100000 in
theorem ok210 : k210.all (chk 210 (qbt 210) (qow 210)) = true := by decide +kernel
/-- ClayBootsModel.keeps()V -/
def k211 : List En := [(0, 1, 2, 0, 0, 0, []), (1, 4, 24, 0, 4, 11, []), (4, 6, 0, 6, 0, 0, []), (6, 9, 20, 0, 50, 1, []), (9, 10, 0, 0, 0, 0, []), (10, 11, 4, 0, 1, 0, []), (11, 12, 1, 0, 1, 0, []), (12, 15, 0, 1145, 0, 0, []), (15, 18, 20, 0, 40, 3, []), (18, 19, 2, 0, 0, 0, []), (19, 22, 24, 0, 2, 11, []), (22, 23, 1, 0, 1, 0, []), (23, 24, 2, 0, 0, 0, []), (24, 27, 24, 0, 2, 11, []), (27, 28, 1, 0, 1, 0, []), (28, 31, 0, 229, 0, 0, []), (31, 32, 8, 0, 0, 0, []), (32, 33, 26, 0, 0, 0, []), (33, 34, 27, 0, 0, 0, []), (34, 37, 7, 1, 1, 0, []), (37, 40, 18, 0, 11, 0, []), (40, 41, 2, 0, 0, 0, []), (41, 42, 15, 0, 0, 0, []), (42, 45, 24, 0, 4, 11, []), (45, 46, 0, 1, 0, 0, []), (46, 47, 8, 0, 1, 0, []), (47, 50, 25, 0, 4, 11, []), (50, 51, 0, 0, 0, 0, []), (51, 52, 4, 0, 1, 0, []), (52, 53, 1, 0, 1, 0, []), (53, 56, 0, 229, 0, 0, []), (56, 59, 20, 0, 86, 3, []), (59, 60, 2, 0, 0, 0, []), (60, 63, 24, 0, 2, 11, []), (63, 66, 0, 229, 0, 0, []), (66, 67, 2, 0, 0, 0, []), (67, 70, 24, 0, 4, 11, []), (70, 71, 8, 0, 2, 0, []), (71, 72, 1, 0, 1, 0, []), (72, 73, 8, 0, 0, 0, []), (73, 74, 2, 0, 0, 0, []), (74, 77, 24, 0, 0, 11, []), (77, 78, 1, 0, 1, 0, []), (78, 79, 26, 0, 0, 0, []), (79, 80, 27, 0, 0, 0, []), (80, 83, 7, 1, 1, 0, []), (83, 86, 18, 0, 52, 0, []), (86, 87, 2, 0, 0, 0, []), (87, 88, 15, 0, 0, 0, []), (88, 91, 24, 0, 4, 11, []), (91, 92, 0, 1, 0, 0, []), (92, 93, 8, 0, 0, 0, []), (93, 96, 25, 0, 4, 11, []), (96, 97, 2, 0, 0, 0, []), (97, 98, 0, 1, 0, 0, []), (98, 101, 25, 0, 26, 11, []), (101, 102, 37, 0, 0, 0, [])]
set_option maxRecDepth 100000 in
theorem ok211 : k211.all (chk 211 (qbt 211) (qow 211)) = true := by decide +kernel
/-- ClayBootsModel.undo()Z -/
def k212 : List En := [(0, 1, 2, 0, 0, 0, []), (1, 4, 24, 0, 4, 11, []), (4, 7, 19, 0, 9, 1, []), (7, 8, 0, 0, 0, 0, []), (8, 9, 35, 0, 0, 0, []), (9, 10, 2, 0, 0, 0, []), (10, 11, 15, 0, 0, 0, []), (11, 14, 24, 0, 4, 11, []), (14, 15, 0, 1, 0, 0, []), (15, 16, 8, 0, 1, 0, []), (16, 19, 25, 0, 4, 11, []), (19, 20, 0, 0, 0, 0, []), (20, 21, 4, 0, 1, 0, []), (21, 22, 1, 0, 1, 0, []), (22, 25, 0, 229, 0, 0, []), (25, 28, 20, 0, 55, 3, []), (28, 29, 2, 0, 0, 0, []), (29, 32, 24, 0, 0, 11, []), (32, 33, 1, 0, 1, 0, []), (33, 34, 2, 0, 0, 0, []), (34, 37, 24, 0, 2, 11, []), (37, 40, 0, 229, 0, 0, []), (40, 41, 2, 0, 0, 0, []), (41, 44, 24, 0, 4, 11, []), (44, 45, 8, 0, 2, 0, []), (45, 46, 1, 0, 1, 0, []), (46, 47, 8, 0, 0, 0, []), (47, 48, 26, 0, 0, 0, []), (48, 49, 27, 0, 0, 0, []), (49, 52, 7, 1, 1, 0, []), (52, 55, 18, 0, 21, 0, []), (55, 56, 0, 1, 0, 0, []), (56, 57, 35, 0, 0, 0, [])]
set_option maxRecDepth 100000 in
theorem ok212 : k212.all (chk 212 (qbt 212) (qow 212)) = true := by decide +kernel
/-- ClayBootsModel.notes(III)V -/
def k213 : List En := [(0, 1, 2, 0, 0, 0, []), (1, 4, 24, 0, 26, 11, []), (4, 7, 19, 0, 19, 0, []), (7, 8, 2, 0, 0, 0, []), (8, 11, 24, 0, 0, 11, []), (11, 12, 0, 5, 0, 0, []), (12, 13, 26, 0, 0, 0, []), (13, 16, 0, 150, 0, 0, []), (16, 19, 20, 0, 20, 1, []), (19, 20, 37, 0, 0, 0, []), (20, 23, 0, 645, 0, 0, []), (23, 24, 0, 4, 0, 0, []), (24, 25, 2, 0, 0, 0, []), (25, 28, 24, 0, 0, 11, []), (28, 29, 0, 5, 0, 0, []), (29, 30, 26, 0, 0, 0, []), (30, 31, 8, 0, 2, 0, []), (31, 32, 8, 0, 0, 0, []), (32, 34, 4, 0, 4, 0, []), (34, 35, 2, 0, 0, 0, []), (35, 38, 24, 0, 0, 11, []), (38, 40, 1, 0, 4, 0, []), (40, 41, 2, 0, 0, 0, []), (41, 44, 24, 0, 0, 11, []), (44, 45, 0, 3, 0, 0, []), (45, 46, 26, 0, 0, 0, []), (46, 47, 27, 0, 0, 0, []), (47, 48, 2, 0, 0, 0, []), (48, 51, 24, 0, 0, 11, []), (51, 53, 1, 0, 4, 0, []), (53, 54, 0, 1, 0, 0, []), (54, 55, 8, 0, 0, 0, []), (55, 56, 1, 0, 1, 0, []), (56, 57, 27, 0, 0, 0, []), (57, 58, 2, 0, 0, 0, []), (58, 61, 24, 0, 0, 11, []), (61, 63, 1, 0, 4, 0, []), (63, 64, 0, 2, 0, 0, []), (64, 65, 8, 0, 0, 0, []), (65, 66, 1, 0, 2, 0, []), (66, 67, 27, 0, 0, 0, []), (67, 68, 2, 0, 0, 0, []), (68, 71, 24, 0, 0, 11, []), (71, 73, 1, 0, 4, 0, []), (73, 74, 0, 3, 0, 0, []), (74, 75, 8, 0, 0, 0, []), (75, 76, 1, 0, 3, 0, []), (76, 77, 27, 0, 0, 0, []), (77, 78, 2, 0, 0, 0, []), (78, 81, 24, 0, 0, 11, []), (81, 82, 0, 5, 0, 0, []), (82, 83, 16, 0, 0, 0, []), (83, 84, 26, 0, 0, 0, []), (84, 85, 0, 1, 0, 0, []), (85, 86, 8, 0, 0, 0, []), (86, 87, 27, 0, 0, 0, []), (87, 88, 37, 0, 0, 0, [])]
set_option maxRecDepth 100000 in
theorem ok213 : k213.all (chk 213 (qbt 213) (qow 213)) = true := by decide +kernel
/-- ClayBootsModel.goesBy(II)V -/
def k214 : List En := [(0, 1, 2, 0, 0, 0, []), (1, 2, 1, 0, 1, 0, []), (2, 3, 1, 0, 2, 0, []), (3, 6, 44, 0, 208, 3, [(0, 11)]), (6, 7, 2, 0, 0, 0, []), (7, 10, 24, 0, 0, 11, []), (10, 12, 0, 7, 0, 0, []), (12, 13, 1, 0, 2, 0, []), (13, 14, 8, 0, 0, 0, []), (14, 15, 26, 0, 0, 0, []), (15, 17, 0, 10, 0, 0, []), (17, 18, 2, 0, 0, 0, []), (18, 21, 24, 0, 0, 11, []), (21, 24, 0, 263, 0, 0, []), (24, 25, 1, 0, 1, 0, []), (25, 26, 8, 0, 0, 0, []), (26, 27, 26, 0, 0, 0, []), (27, 28, 8, 0, 2, 0, []), (28, 29, 2, 0, 0, 0, []), (29, 30, 1, 0, 1, 0, []), (30, 33, 44, 0, 206, 2, [(0, 11)]), (33, 34, 8, 0, 1, 0, []), (34, 37, 38, 0, 152, 2, []), (37, 40, 38, 0, 152, 2, []), (40, 41, 4, 0, 3, 0, []), (41, 42, 2, 0, 0, 0, []), (42, 45, 24, 0, 0, 11, []), (45, 47, 0, 7, 0, 0, []), (47, 48, 1, 0, 2, 0, []), (48, 49, 8, 0, 0, 0, []), (49, 50, 16, 0, 0, 0, []), (50, 51, 26, 0, 0, 0, []), (51, 52, 1, 0, 3, 0, []), (52, 53, 8, 0, 1, 0, []), (53, 54, 27, 0, 0, 0, []), (54, 55, 2, 0, 0, 0, []), (55, 58, 24, 0, 0, 11, []), (58, 60, 0, 109, 0, 0, []), (60, 62, 0, 10, 0, 0, []), (62, 63, 1, 0, 1, 0, []), (63, 64, 8, 0, 2, 0, []), (64, 65, 8, 0, 0, 0, []), (65, 66, 1, 0, 2, 0, []), (66, 67, 8, 0, 0, 0, []), (67, 68, 16, 0, 0, 0, []), (68, 69, 26, 0, 0, 0, []), (69, 70, 1, 0, 3, 0, []), (70, 71, 8, 0, 0, 0, []), (71, 72, 27, 0, 0, 0, []), (72, 73, 37, 0, 0, 0, [])]
set_option maxRecDepth 100000 in
theorem ok214 : k214.all (chk 214 (qbt 214) (qow 214)) = true := by decide +kernel
/-- ClayBootsModel.wipes(II)I -/
def k215 : List En := [(0, 1, 2, 0, 0, 0, []), (1, 4, 24, 0, 0, 11, []), (4, 5, 0, 1, 0, 0, []), (5, 6, 26, 0, 0, 0, []), (6, 7, 0, 1, 0, 0, []), (7, 10, 20, 0, 18, 0, []), (10, 11, 2, 0, 0, 0, []), (11, 12, 1, 0, 2, 0, []), (12, 15, 44, 0, 158, 2, [(0, 11)]), (15, 18, 19, 0, 20, 0, []), (18, 19, 0, 0, 0, 0, []), (19, 20, 34, 0, 0, 0, []), (20, 21, 0, 0, 0, 0, []), (21, 22, 4, 0, 3, 0, []), (22, 23, 0, 0, 0, 0, []), (23, 25, 4, 0, 4, 0, []), (25, 27, 1, 0, 4, 0, []), (27, 28, 2, 0, 0, 0, []), (28, 31, 24, 0, 0, 11, []), (31, 34, 0, 229, 0, 0, []), (34, 35, 26, 0, 0, 0, []), (35, 38, 20, 0, 131, 3, []), (38, 39, 2, 0, 0, 0, []), (39, 42, 24, 0, 0, 11, []), (42, 44, 0, 109, 0, 0, []), (44, 46, 0, 10, 0, 0, []), (46, 47, 1, 0, 1, 0, []), (47, 48, 8, 0, 2, 0, []), (48, 49, 8, 0, 0, 0, []), (49, 51, 1, 0, 4, 0, []), (51, 52, 8, 0, 0, 0, []), (52, 53, 26, 0, 0, 0, []), (53, 55, 4, 0, 5, 0, []), (55, 57, 1, 0, 5, 0, []), (57, 60, 19, 0, 63, 1, []), (60, 63, 18, 0, 125, 0, []), (63, 65, 1, 0, 5, 0, []), (65, 66, 2, 0, 0, 0, []), (66, 67, 1, 0, 1, 0, []), (67, 69, 1, 0, 4, 0, []), (69, 70, 1, 0, 2, 0, []), (70, 73, 44, 0, 209, 4, [(0, 11)]), (73, 74, 8, 0, 2, 0, []), (74, 77, 0, 1000, 0, 0, []), (77, 78, 9, 0, 0, 0, []), (78, 80, 4, 0, 6, 0, []), (80, 81, 2, 0, 0, 0, []), (81, 84, 24, 0, 0, 11, []), (84, 86, 0, 109, 0, 0, []), (86, 88, 0, 10, 0, 0, []), (88, 89, 1, 0, 1, 0, []), (89, 90, 8, 0, 2, 0, []), (90, 91, 8, 0, 0, 0, []), (91, 93, 1, 0, 4, 0, []), (93, 94, 8, 0, 0, 0, []), (94, 95, 16, 0, 0, 0, []), (95, 96, 26, 0, 0, 0, []), (96, 98, 1, 0, 6, 0, []), (98, 99, 8, 0, 1, 0, []), (99, 100, 27, 0, 0, 0, []), (100, 101, 2, 0, 0, 0, []), (101, 104, 24, 0, 0, 11, []), (104, 106, 0, 29, 0, 0, []), (106, 108, 0, 10, 0, 0, []), (108, 109, 1, 0, 2, 0, []), (109, 110, 8, 0, 2, 0, []), (110, 111, 8, 0, 0, 0, []), (111, 113, 1, 0, 4, 0, []), (113, 114, 8, 0, 0, 0, []), (114, 115, 16, 0, 0, 0, []), (115, 116, 26, 0, 0, 0, []), (116, 118, 1, 0, 6, 0, []), (118, 119, 8, 0, 0, 0, []), (119, 120, 27, 0, 0, 0, []), (120, 121, 1, 0, 3, 0, []), (121, 123, 1, 0, 6, 0, []), (123, 124, 8, 0, 0, 0, []), (124, 125, 4, 0, 3, 0, []), (125, 128, 7, 1, 4, 0, []), (128, 131, 18, 0, 25, 0, []), (131, 132, 2, 0, 0, 0, []), (132, 135, 24, 0, 0, 11, []), (135, 136, 0, 2, 0, 0, []), (136, 137, 16, 0, 0, 0, []), (137, 138, 26, 0, 0, 0, []), (138, 139, 1, 0, 3, 0, []), (139, 140, 8, 0, 0, 0, []), (140, 141, 27, 0, 0, 0, []), (141, 142, 1, 0, 3, 0, []), (142, 143, 34, 0, 0, 0, [])]
set_option maxRecDepth 100000 in
theorem ok215 : k215.all (chk 215 (qbt 215) (qow 215)) = true := by decide +kernel
/-- ClayBootsModel.calls(II)I -/
def k216 : List En := [(0, 1, 0, 0, 0, 0, []), (1, 2, 4, 0, 3, 0, []), (2, 3, 1, 0, 3, 0, []), (3, 4, 2, 0, 0, 0, []), (4, 7, 24, 0, 28, 11, []), (7, 10, 20, 0, 27, 3, []), (10, 11, 2, 0, 0, 0, []), (11, 12, 1, 0, 1, 0, []), (12, 13, 2, 0, 0, 0, []), (13, 16, 24, 0, 27, 11, []), (16, 17, 1, 0, 3, 0, []), (17, 18, 26, 0, 0, 0, []), (18, 21, 44, 0, 214, 3, [(0, 11)]), (21, 24, 7, 1, 3, 0, []), (24, 27, 18, 0, 2, 0, []), (27, 28, 2, 0, 0, 0, []), (28, 29, 1, 0, 1, 0, []), (29, 30, 1, 0, 2, 0, []), (30, 33, 44, 0, 210, 3, [(0, 11)]), (33, 34, 4, 0, 3, 0, []), (34, 35, 2, 0, 0, 0, []), (35, 36, 1, 0, 2, 0, []), (36, 39, 25, 0, 29, 11, []), (39, 40, 1, 0, 3, 0, []), (40, 43, 19, 0, 87, 5, []), (43, 44, 2, 0, 0, 0, []), (44, 47, 24, 0, 26, 11, []), (47, 50, 19, 0, 64, 0, []), (50, 51, 2, 0, 0, 0, []), (51, 54, 0, 1000, 0, 0, []), (54, 57, 44, 0, 161, 2, [(0, 11)]), (57, 58, 1, 0, 3, 0, []), (58, 61, 20, 0, 87, 3, []), (61, 64, 18, 0, 71, 0, []), (64, 65, 1, 0, 3, 0, []), (65, 68, 0, 500, 0, 0, []), (68, 71, 20, 0, 87, 2, []), (71, 72, 2, 0, 0, 0, []), (72, 73, 1, 0, 2, 0, []), (73, 74, 0, 1, 0, 0, []), (74, 75, 8, 0, 0, 0, []), (75, 76, 2, 0, 0, 0, []), (76, 79, 24, 0, 0, 11, []), (79, 82, 0, 230, 0, 0, []), (82, 83, 26, 0, 0, 0, []), (83, 84, 10, 0, 0, 0, []), (84, 87, 25, 0, 29, 11, []), (87, 88, 2, 0, 0, 0, []), (88, 89, 0, 0, 0, 0, []), (89, 90, 1, 0, 1, 0, []), (90, 91, 2, 0, 0, 0, []), (91, 94, 24, 0, 29, 11, []), (94, 97, 44, 0, 213, 4, [(0, 11)]), (97, 98, 2, 0, 0, 0, []), (98, 99, 1, 0, 1, 0, []), (99, 100, 2, 0, 0, 0, []), (100, 103, 24, 0, 29, 11, []), (103, 106, 44, 0, 215, 3, [(0, 11)]), (106, 108, 4, 0, 4, 0, []), (108, 109, 2, 0, 0, 0, []), (109, 112, 24, 0, 0, 11, []), (112, 114, 0, 17, 0, 0, []), (114, 115, 1, 0, 1, 0, []), (115, 116, 8, 0, 0, 0, []), (116, 117, 16, 0, 0, 0, []), (117, 118, 26, 0, 0, 0, []), (118, 119, 0, 1, 0, 0, []), (119, 120, 8, 0, 0, 0, []), (120, 121, 27, 0, 0, 0, []), (121, 123, 1, 0, 4, 0, []), (123, 126, 19, 0, 134, 5, []), (126, 127, 2, 0, 0, 0, []), (127, 128, 0, 1, 0, 0, []), (128, 129, 1, 0, 1, 0, []), (129, 131, 1, 0, 4, 0, []), (131, 134, 44, 0, 213, 4, [(0, 11)]), (134, 136, 1, 0, 4, 0, []), (136, 137, 34, 0, 0, 0, [])]
set_option maxRecDepth 100000 in
theorem ok216 : k216.all (chk 216 (qbt 216) (qow 216)) = true := by decide +kernel
/-- ClayBootsModel.laysFields(I)Z -/
def k217 : List En := [(0, 1, 2, 0, 0, 0, []), (1, 2, 0, 0, 0, 0, []), (2, 5, 25, 0, 28, 11, []), (5, 6, 1, 0, 1, 0, []), (6, 7, 4, 0, 2, 0, []), (7, 8, 1, 0, 2, 0, []), (8, 10, 0, 9, 0, 0, []), (10, 13, 20, 0, 79, 5, []), (13, 14, 2, 0, 0, 0, []), (14, 17, 24, 0, 28, 11, []), (17, 19, 0, 6, 0, 0, []), (19, 22, 20, 0, 79, 3, []), (22, 23, 2, 0, 0, 0, []), (23, 26, 24, 0, 28, 11, []), (26, 27, 4, 0, 3, 0, []), (27, 28, 1, 0, 3, 0, []), (28, 31, 19, 0, 51, 5, []), (31, 32, 2, 0, 0, 0, []), (32, 35, 24, 0, 27, 11, []), (35, 36, 1, 0, 3, 0, []), (36, 37, 2, 0, 0, 0, []), (37, 40, 24, 0, 27, 11, []), (40, 41, 1, 0, 3, 0, []), (41, 42, 0, 1, 0, 0, []), (42, 43, 8, 0, 1, 0, []), (43, 44, 26, 0, 0, 0, []), (44, 45, 27, 0, 0, 0, []), (45, 48, 7, -1, 3, 0, []), (48, 51, 18, 0, 27, 0, []), (51, 52, 2, 0, 0, 0, []), (52, 55, 24, 0, 27, 11, []), (55, 56, 0, 0, 0, 0, []), (56, 57, 1, 0, 2, 0, []), (57, 59, 0, 10, 0, 0, []), (59, 60, 10, 0, 0, 0, []), (60, 61, 27, 0, 0, 0, []), (61, 62, 2, 0, 0, 0, []), (62, 63, 15, 0, 0, 0, []), (63, 66, 24, 0, 28, 11, []), (66, 67, 0, 1, 0, 0, []), (67, 68, 8, 0, 0, 0, []), (68, 71, 25, 0, 28, 11, []), (71, 72, 1, 0, 2, 0, []), (72, 74, 0, 10, 0, 0, []), (74, 75, 9, 0, 0, 0, []), (75, 76, 4, 0, 2, 0, []), (76, 79, 18, 0, 7, 0, []), (79, 80, 1, 0, 2, 0, []), (80, 81, 0, 1, 0, 0, []), (81, 84, 20, 0, 91, 1, []), (84, 85, 2, 0, 0, 0, []), (85, 88, 24, 0, 28, 11, []), (88, 91, 19, 0, 93, 1, []), (91, 92, 0, 0, 0, 0, []), (92, 93, 35, 0, 0, 0, []), (93, 94, 0, 0, 0, 0, []), (94, 95, 4, 0, 3, 0, []), (95, 96, 1, 0, 3, 0, []), (96, 97, 2, 0, 0, 0, []), (97, 100, 24, 0, 28, 11, []), (100, 103, 20, 0, 124, 3, []), (103, 104, 2, 0, 0, 0, []), (104, 105, 2, 0, 0, 0, []), (105, 108, 24, 0, 27, 11, []), (108, 109, 1, 0, 3, 0, []), (109, 110, 26, 0, 0, 0, []), (110, 113, 44, 0, 155, 2, [(0, 11)]), (113, 116, 19, 0, 118, 1, []), (116, 117, 0, 0, 0, 0, []), (117, 118, 35, 0, 0, 0, []), (118, 121, 7, 1, 3, 0, []), (121, 124, 18, 0, 95, 0, []), (124, 125, 0, 1, 0, 0, []), (125, 126, 35, 0, 0, 0, [])]
set_option maxRecDepth 100000 in
theorem ok217 : k217.all (chk 217 (qbt 217) (qow 217)) = true := by decide +kernel
/-- ClayBootsModel.call(III)I -/
def k218 : List En := [(0, 1, 2, 0, 0, 0, []), (1, 2, 1, 0, 1, 0, []), (2, 5, 44, 0, 157, 2, [(0, 11)]), (5, 8, 19, 0, 24, 0, []), (8, 9, 2, 0, 0, 0, []), (9, 10, 1, 0, 3, 0, []), (10, 13, 44, 0, 156, 2, [(0, 11)]), (13, 16, 19, 0, 24, 0, []), (16, 17, 2, 0, 0, 0, []), (17, 18, 1, 0, 2, 0, []), (18, 21, 44, 0, 217, 2, [(0, 11)]), (21, 24, 19, 0, 26, 1, []), (24, 25, 0, -1, 0, 0, []), (25, 26, 34, 0, 0, 0, []), (26, 27, 2, 0, 0, 0, []), (27, 30, 44, 0, 211, 1, [(0, 11)]), (30, 31, 2, 0, 0, 0, []), (31, 32, 1, 0, 1, 0, []), (32, 33, 1, 0, 3, 0, []), (33, 36, 44, 0, 216, 3, [(0, 11)]), (36, 37, 34, 0, 0, 0, [])]
set_option maxRecDepth 100000 in
theorem ok218 : k218.all (chk 218 (qbt 218) (qow 218)) = true := by decide +kernel
end
section
/-- ClayBootsModel.toLand(II)V -/
def k219 : List En := [(0, 1, 2, 0, 0, 0, []), (1, 4, 24, 0, 0, 11, []), (4, 6, 0, 7, 0, 0, []), (6, 7, 1, 0, 1, 0, []), (7, 8, 8, 0, 0, 0, []), (8, 11, 0, 9999, 0, 0, []), (11, 12, 2, 0, 0, 0, []), (12, 15, 24, 0, 0, 11, []), (15, 17, 0, 7, 0, 0, []), (17, 18, 1, 0, 1, 0, []), (18, 19, 8, 0, 0, 0, []), (19, 20, 26, 0, 0, 0, []), (20, 21, 1, 0, 2, 0, []), (21, 22, 8, 0, 0, 0, []), (22, 25, 38, 0, 152, 2, []), (25, 26, 27, 0, 0, 0, []), (26, 27, 37, 0, 0, 0, [])]
set_option maxRecDepth 100000 in
theorem ok219 : k219.all (chk 219 (qbt 219) (qow 219)) = true := by decide +kernel
/-- ClayBootsModel.sweeps(I)V -/
def k220 : List En := [(0, 1, 0, 0, 0, 0, []), (1, 2, 4, 0, 2, 0, []), (2, 3, 0, 0, 0, 0, []), (3, 4, 4, 0, 3, 0, []), (4, 5, 1, 0, 3, 0, []), (5, 7, 0, 10, 0, 0, []), (7, 10, 20, 0, 67, 3, []), (10, 11, 1, 0, 2, 0, []), (11, 12, 2, 0, 0, 0, []), (12, 15, 24, 0, 0, 11, []), (15, 17, 0, 29, 0, 0, []), (17, 19, 0, 10, 0, 0, []), (19, 20, 1, 0, 1, 0, []), (20, 21, 8, 0, 2, 0, []), (21, 22, 8, 0, 0, 0, []), (22, 23, 1, 0, 3, 0, []), (23, 24, 8, 0, 0, 0, []), (24, 25, 26, 0, 0, 0, []), (25, 26, 8, 0, 0, 0, []), (26, 27, 4, 0, 2, 0, []), (27, 28, 2, 0, 0, 0, []), (28, 29, 1, 0, 3, 0, []), (29, 30, 2, 0, 0, 0, []), (30, 33, 24, 0, 0, 11, []), (33, 35, 0, 29, 0, 0, []), (35, 37, 0, 10, 0, 0, []), (37, 38, 1, 0, 1, 0, []), (38, 39, 8, 0, 2, 0, []), (39, 40, 8, 0, 0, 0, []), (40, 41, 1, 0, 3, 0, []), (41, 42, 8, 0, 0, 0, []), (42, 43, 26, 0, 0, 0, []), (43, 46, 44, 0, 219, 3, [(0, 11)]), (46, 47, 2, 0, 0, 0, []), (47, 50, 24, 0, 0, 11, []), (50, 52, 0, 29, 0, 0, []), (52, 54, 0, 10, 0, 0, []), (54, 55, 1, 0, 1, 0, []), (55, 56, 8, 0, 2, 0, []), (56, 57, 8, 0, 0, 0, []), (57, 58, 1, 0, 3, 0, []), (58, 59, 8, 0, 0, 0, []), (59, 60, 0, 0, 0, 0, []), (60, 61, 27, 0, 0, 0, []), (61, 64, 7, 1, 3, 0, []), (64, 67, 18, 0, 4, 0, []), (67, 68, 2, 0, 0, 0, []), (68, 69, 0, 3, 0, 0, []), (69, 70, 1, 0, 1, 0, []), (70, 71, 1, 0, 2, 0, []), (71, 74, 44, 0, 213, 4, [(0, 11)]), (74, 75, 37, 0, 0, 0, [])]
set_option maxRecDepth 100000 in
theorem ok220 : k220.all (chk 220 (qbt 220) (qow 220)) = true := by decide +kernel
/-- ClayBootsModel.canAct(II)Z -/
def k221 : List En := [(0, 1, 1, 0, 1, 0, []), (1, 28, 23, 0, 78, 0, [(0, 28), (1, 34), (2, 56)]), (28, 29, 2, 0, 0, 0, []), (29, 30, 1, 0, 2, 0, []), (30, 33, 44, 0, 156, 2, [(0, 11)]), (33, 34, 35, 0, 0, 0, []), (34, 35, 2, 0, 0, 0, []), (35, 36, 1, 0, 2, 0, []), (36, 39, 44, 0, 156, 2, [(0, 11)]), (39, 42, 19, 0, 54, 0, []), (42, 43, 2, 0, 0, 0, []), (43, 44, 1, 0, 2, 0, []), (44, 47, 44, 0, 158, 2, [(0, 11)]), (47, 50, 19, 0, 54, 1, []), (50, 51, 0, 1, 0, 0, []), (51, 54, 18, 0, 55, 0, []), (54, 55, 0, 0, 0, 0, []), (55, 56, 35, 0, 0, 0, []), (56, 57, 2, 0, 0, 0, []), (57, 58, 1, 0, 2, 0, []), (58, 61, 44, 0, 156, 2, [(0, 11)]), (61, 64, 19, 0, 76, 0, []), (64, 65, 2, 0, 0, 0, []), (65, 66, 1, 0, 2, 0, []), (66, 69, 44, 0, 158, 2, [(0, 11)]), (69, 72, 19, 0, 76, 0, []), (72, 73, 0, 1, 0, 0, []), (73, 76, 18, 0, 77, 0, []), (76, 77, 0, 0, 0, 0, []), (77, 78, 35, 0, 0, 0, []), (78, 79, 1, 0, 1, 0, []), (79, 80, 0, 3, 0, 0, []), (80, 81, 0, 4, 0, 0, []), (81, 84, 38, 0, 151, 3, []), (84, 87, 19, 0, 103, 0, []), (87, 88, 2, 0, 0, 0, []), (88, 91, 24, 0, 0, 11, []), (91, 92, 0, 1, 0, 0, []), (92, 93, 26, 0, 0, 0, []), (93, 94, 1, 0, 1, 0, []), (94, 95, 0, 3, 0, 0, []), (95, 96, 8, 0, 1, 0, []), (96, 99, 20, 0, 103, 1, []), (99, 100, 0, 1, 0, 0, []), (100, 103, 18, 0, 104, 0, []), (103, 104, 0, 0, 0, 0, []), (104, 105, 35, 0, 0, 0, [])]
set_option maxRecDepth 100000 in
theorem ok221 : k221.all (chk 221 (qbt 221) (qow 221)) = true := by decide +kernel
/-- ClayBootsModel.act(II)Z -/
def k222 : List En := [(0, 1, 2, 0, 0, 0, []), (1, 2, 1, 0, 1, 0, []), (2, 3, 1, 0, 2, 0, []), (3, 6, 44, 0, 221, 3, [(0, 11)]), (6, 9, 19, 0, 11, 1, []), (9, 10, 0, 0, 0, 0, []), (10, 11, 35, 0, 0, 0, []), (11, 12, 2, 0, 0, 0, []), (12, 15, 44, 0, 211, 1, [(0, 11)]), (15, 16, 1, 0, 1, 0, []), (16, 19, 19, 0, 27, 1, []), (19, 20, 2, 0, 0, 0, []), (20, 21, 1, 0, 2, 0, []), (21, 24, 44, 0, 220, 2, [(0, 11)]), (24, 27, 18, 0, 57, 0, []), (27, 28, 1, 0, 1, 0, []), (28, 29, 0, 3, 0, 0, []), (29, 32, 20, 0, 48, 3, []), (32, 33, 2, 0, 0, 0, []), (33, 36, 24, 0, 0, 11, []), (36, 38, 0, 6, 0, 0, []), (38, 39, 16, 0, 0, 0, []), (39, 40, 26, 0, 0, 0, []), (40, 41, 0, 1, 0, 0, []), (41, 42, 1, 0, 2, 0, []), (42, 43, 8, 0, 6, 0, []), (43, 44, 8, 0, 5, 0, []), (44, 45, 27, 0, 0, 0, []), (45, 48, 18, 0, 57, 0, []), (48, 49, 2, 0, 0, 0, []), (49, 52, 24, 0, 0, 11, []), (52, 53, 0, 1, 0, 0, []), (53, 54, 0, 4, 0, 0, []), (54, 55, 1, 0, 1, 0, []), (55, 56, 8, 0, 1, 0, []), (56, 57, 27, 0, 0, 0, []), (57, 58, 0, 1, 0, 0, []), (58, 59, 35, 0, 0, 0, [])]
set_option maxRecDepth 100000 in
theorem ok222 : k222.all (chk 222 (qbt 222) (qow 222)) = true := by decide +kernel
/-- ClayBootsModel.isSky(I)V -/
def k223 : List En := [(0, 1, 2, 0, 0, 0, []), (1, 4, 24, 0, 0, 11, []), (4, 5, 1, 0, 1, 0, []), (5, 6, 0, 1, 0, 0, []), (6, 7, 8, 0, 0, 0, []), (7, 8, 26, 0, 0, 0, []), (8, 10, 0, 11, 0, 0, []), (10, 13, 20, 0, 30, 1, []), (13, 14, 2, 0, 0, 0, []), (14, 17, 24, 0, 0, 11, []), (17, 18, 0, 0, 0, 0, []), (18, 19, 2, 0, 0, 0, []), (19, 22, 24, 0, 0, 11, []), (22, 23, 1, 0, 1, 0, []), (23, 24, 0, 2, 0, 0, []), (24, 25, 8, 0, 0, 0, []), (25, 26, 26, 0, 0, 0, []), (26, 27, 27, 0, 0, 0, []), (27, 30, 18, 0, 54, 0, []), (30, 31, 2, 0, 0, 0, []), (31, 34, 24, 0, 0, 11, []), (34, 35, 0, 1, 0, 0, []), (35, 36, 2, 0, 0, 0, []), (36, 39, 24, 0, 0, 11, []), (39, 40, 1, 0, 1, 0, []), (40, 41, 0, 1, 0, 0, []), (41, 42, 8, 0, 0, 0, []), (42, 43, 26, 0, 0, 0, []), (43, 45, 0, 12, 0, 0, []), (45, 48, 20, 0, 52, 1, []), (48, 49, 0, 1, 0, 0, []), (49, 52, 18, 0, 53, 0, []), (52, 53, 0, 0, 0, 0, []), (53, 54, 27, 0, 0, 0, []), (54, 55, 37, 0, 0, 0, [])]
set_option maxRecDepth 100000 in
theorem ok223 : k223.all (chk 223 (qbt 223) (qow 223)) = true := by decide +kernel
/-- ClayBootsModel.fallsAtHome(I)V -/
def k224 : List En := [(0, 1, 0, 0, 0, 0, []), (1, 2, 4, 0, 2, 0, []), (2, 3, 0, 0, 0, 0, []), (3, 4, 4, 0, 3, 0, []), (4, 5, 1, 0, 3, 0, []), (5, 7, 0, 10, 0, 0, []), (7, 10, 20, 0, 113, 3, []), (10, 11, 2, 0, 0, 0, []), (11, 14, 24, 0, 0, 11, []), (14, 16, 0, 109, 0, 0, []), (16, 18, 0, 10, 0, 0, []), (18, 19, 1, 0, 1, 0, []), (19, 20, 8, 0, 2, 0, []), (20, 21, 8, 0, 0, 0, []), (21, 22, 1, 0, 3, 0, []), (22, 23, 8, 0, 0, 0, []), (23, 24, 26, 0, 0, 0, []), (24, 25, 0, 2, 0, 0, []), (25, 26, 9, 0, 0, 0, []), (26, 28, 4, 0, 4, 0, []), (28, 29, 2, 0, 0, 0, []), (29, 32, 24, 0, 0, 11, []), (32, 34, 0, 109, 0, 0, []), (34, 36, 0, 10, 0, 0, []), (36, 37, 1, 0, 1, 0, []), (37, 38, 8, 0, 2, 0, []), (38, 39, 8, 0, 0, 0, []), (39, 40, 1, 0, 3, 0, []), (40, 41, 8, 0, 0, 0, []), (41, 42, 16, 0, 0, 0, []), (42, 43, 26, 0, 0, 0, []), (43, 45, 1, 0, 4, 0, []), (45, 46, 8, 0, 1, 0, []), (46, 47, 27, 0, 0, 0, []), (47, 48, 2, 0, 0, 0, []), (48, 49, 2, 0, 0, 0, []), (49, 52, 24, 0, 0, 11, []), (52, 55, 0, 251, 0, 0, []), (55, 56, 1, 0, 1, 0, []), (56, 57, 8, 0, 0, 0, []), (57, 58, 26, 0, 0, 0, []), (58, 61, 44, 0, 158, 2, [(0, 11)]), (61, 64, 19, 0, 74, 0, []), (64, 65, 2, 0, 0, 0, []), (65, 66, 1, 0, 3, 0, []), (66, 68, 1, 0, 4, 0, []), (68, 71, 44, 0, 219, 3, [(0, 11)]), (71, 74, 18, 0, 102, 0, []), (74, 75, 2, 0, 0, 0, []), (75, 78, 24, 0, 0, 11, []), (78, 80, 0, 29, 0, 0, []), (80, 82, 0, 10, 0, 0, []), (82, 83, 2, 0, 0, 0, []), (83, 86, 24, 0, 0, 11, []), (86, 89, 0, 251, 0, 0, []), (89, 90, 1, 0, 1, 0, []), (90, 91, 8, 0, 0, 0, []), (91, 92, 26, 0, 0, 0, []), (92, 93, 8, 0, 2, 0, []), (93, 94, 8, 0, 0, 0, []), (94, 95, 1, 0, 3, 0, []), (95, 96, 8, 0, 0, 0, []), (96, 97, 16, 0, 0, 0, []), (97, 98, 26, 0, 0, 0, []), (98, 100, 1, 0, 4, 0, []), (100, 101, 8, 0, 0, 0, []), (101, 102, 27, 0, 0, 0, []), (102, 103, 1, 0, 2, 0, []), (103, 105, 1, 0, 4, 0, []), (105, 106, 8, 0, 0, 0, []), (106, 107, 4, 0, 2, 0, []), (107, 110, 7, 1, 3, 0, []), (110, 113, 18, 0, 4, 0, []), (113, 114, 1, 0, 2, 0, []), (114, 117, 19, 0, 124, 5, []), (117, 118, 2, 0, 0, 0, []), (118, 119, 0, 2, 0, 0, []), (119, 120, 1, 0, 1, 0, []), (120, 121, 1, 0, 2, 0, []), (121, 124, 44, 0, 213, 4, [(0, 11)]), (124, 125, 37, 0, 0, 0, [])]
set_option maxRecDepth 100000 in
theorem ok224 : k224.all (chk 224 (qbt 224) (qow 224)) = true := by decide +kernel
/-- ClayBootsModel.laysCall(I)V -/
def k225 : List En := [(0, 1, 2, 0, 0, 0, []), (1, 2, 0, 0, 0, 0, []), (2, 5, 25, 0, 28, 11, []), (5, 6, 0, 0, 0, 0, []), (6, 7, 4, 0, 2, 0, []), (7, 8, 1, 0, 2, 0, []), (8, 10, 0, 6, 0, 0, []), (10, 13, 20, 0, 65, 3, []), (13, 14, 2, 0, 0, 0, []), (14, 17, 24, 0, 0, 11, []), (17, 18, 1, 0, 1, 0, []), (18, 19, 0, 3, 0, 0, []), (19, 20, 8, 0, 0, 0, []), (20, 21, 1, 0, 2, 0, []), (21, 22, 8, 0, 0, 0, []), (22, 23, 26, 0, 0, 0, []), (23, 24, 0, -1, 0, 0, []), (24, 27, 20, 0, 30, 1, []), (27, 30, 18, 0, 59, 0, []), (30, 31, 2, 0, 0, 0, []), (31, 34, 24, 0, 27, 11, []), (34, 35, 2, 0, 0, 0, []), (35, 38, 24, 0, 28, 11, []), (38, 39, 2, 0, 0, 0, []), (39, 42, 24, 0, 0, 11, []), (42, 43, 1, 0, 1, 0, []), (43, 44, 0, 3, 0, 0, []), (44, 45, 8, 0, 0, 0, []), (45, 46, 1, 0, 2, 0, []), (46, 47, 8, 0, 0, 0, []), (47, 48, 26, 0, 0, 0, []), (48, 49, 27, 0, 0, 0, []), (49, 50, 2, 0, 0, 0, []), (50, 51, 15, 0, 0, 0, []), (51, 54, 24, 0, 28, 11, []), (54, 55, 0, 1, 0, 0, []), (55, 56, 8, 0, 0, 0, []), (56, 59, 25, 0, 28, 11, []), (59, 62, 7, 1, 2, 0, []), (62, 65, 18, 0, 7, 0, []), (65, 66, 37, 0, 0, 0, [])]
set_option maxRecDepth 100000 in
theorem ok225 : k225.all (chk 225 (qbt 225) (qow 225)) = true := by decide +kernel
/-- ClayBootsModel.aDay()I -/
def k226 : List En := [(0, 1, 0, 0, 0, 0, []), (1, 2, 4, 0, 1, 0, []), (2, 3, 0, 0, 0, 0, []), (3, 4, 4, 0, 2, 0, []), (4, 5, 1, 0, 2, 0, []), (5, 6, 2, 0, 0, 0, []), (6, 9, 24, 0, 0, 11, []), (9, 12, 0, 234, 0, 0, []), (12, 13, 26, 0, 0, 0, []), (13, 16, 20, 0, 54, 3, []), (16, 17, 2, 0, 0, 0, []), (17, 20, 24, 0, 0, 11, []), (20, 23, 0, 431, 0, 0, []), (23, 24, 0, 3, 0, 0, []), (24, 25, 1, 0, 2, 0, []), (25, 26, 8, 0, 2, 0, []), (26, 27, 8, 0, 0, 0, []), (27, 28, 26, 0, 0, 0, []), (28, 29, 2, 0, 0, 0, []), (29, 32, 24, 0, 0, 11, []), (32, 33, 0, 3, 0, 0, []), (33, 34, 26, 0, 0, 0, []), (34, 37, 20, 0, 48, 1, []), (37, 38, 2, 0, 0, 0, []), (38, 41, 0, 431, 0, 0, []), (41, 42, 0, 3, 0, 0, []), (42, 43, 1, 0, 2, 0, []), (43, 44, 8, 0, 2, 0, []), (44, 45, 8, 0, 0, 0, []), (45, 48, 44, 0, 223, 2, [(0, 11)]), (48, 51, 7, 1, 2, 0, []), (51, 54, 18, 0, 4, 0, []), (54, 55, 0, 0, 0, 0, []), (55, 56, 4, 0, 2, 0, []), (56, 57, 1, 0, 2, 0, []), (57, 58, 2, 0, 0, 0, []), (58, 61, 24, 0, 0, 11, []), (61, 64, 0, 233, 0, 0, []), (64, 65, 26, 0, 0, 0, []), (65, 68, 20, 0, 130, 3, []), (68, 71, 0, 287, 0, 0, []), (71, 73, 0, 9, 0, 0, []), (73, 74, 1, 0, 2, 0, []), (74, 75, 8, 0, 2, 0, []), (75, 76, 8, 0, 0, 0, []), (76, 77, 4, 0, 3, 0, []), (77, 78, 2, 0, 0, 0, []), (78, 81, 24, 0, 0, 11, []), (81, 82, 1, 0, 3, 0, []), (82, 83, 26, 0, 0, 0, []), (83, 84, 2, 0, 0, 0, []), (84, 87, 24, 0, 0, 11, []), (87, 88, 0, 3, 0, 0, []), (88, 89, 26, 0, 0, 0, []), (89, 92, 20, 0, 95, 0, []), (92, 95, 18, 0, 124, 0, []), (95, 96, 2, 0, 0, 0, []), (96, 97, 1, 0, 3, 0, []), (97, 100, 44, 0, 225, 2, [(0, 11)]), (100, 101, 2, 0, 0, 0, []), (101, 102, 2, 0, 0, 0, []), (102, 105, 24, 0, 0, 11, []), (105, 106, 1, 0, 3, 0, []), (106, 107, 0, 1, 0, 0, []), (107, 108, 8, 0, 0, 0, []), (108, 109, 26, 0, 0, 0, []), (109, 110, 2, 0, 0, 0, []), (110, 113, 24, 0, 0, 11, []), (113, 114, 1, 0, 3, 0, []), (114, 115, 0, 2, 0, 0, []), (115, 116, 8, 0, 0, 0, []), (116, 117, 26, 0, 0, 0, []), (117, 120, 44, 0, 216, 3, [(0, 11)]), (120, 121, 17, 0, 0, 0, []), (121, 124, 7, 1, 1, 0, []), (124, 127, 7, 1, 2, 0, []), (127, 130, 18, 0, 56, 0, []), (130, 131, 0, 0, 0, 0, []), (131, 132, 4, 0, 2, 0, []), (132, 133, 1, 0, 2, 0, []), (133, 134, 2, 0, 0, 0, []), (134, 137, 24, 0, 0, 11, []), (137, 140, 0, 231, 0, 0, []), (140, 141, 26, 0, 0, 0, []), (141, 144, 20, 0, 164, 3, []), (144, 145, 2, 0, 0, 0, []), (145, 148, 24, 0, 0, 11, []), (148, 149, 0, 1, 0, 0, []), (149, 150, 26, 0, 0, 0, []), (150, 153, 19, 0, 164, 1, []), (153, 154, 2, 0, 0, 0, []), (154, 155, 1, 0, 2, 0, []), (155, 158, 44, 0, 224, 2, [(0, 11)]), (158, 161, 7, 1, 2, 0, []), (161, 164, 18, 0, 132, 0, []), (164, 165, 2, 0, 0, 0, []), (165, 168, 24, 0, 0, 11, []), (168, 169, 0, 3, 0, 0, []), (169, 170, 16, 0, 0, 0, []), (170, 171, 26, 0, 0, 0, []), (171, 172, 0, 1, 0, 0, []), (172, 173, 8, 0, 0, 0, []), (173, 174, 27, 0, 0, 0, []), (174, 175, 1, 0, 1, 0, []), (175, 176, 34, 0, 0, 0, [])]
set_option maxRecDepth 100000 in
theorem ok226 : k226.all (chk 226 (qbt 226) (qow 226)) = true := by decide +kernel
/-- ClayBootsModel.days(I)I -/
def k227 : List En := [(0, 1, 1, 0, 1, 0, []), (1, 2, 0, 1, 0, 0, []), (2, 4, 0, 60, 0, 0, []), (4, 7, 38, 0, 151, 3, []), (7, 10, 19, 0, 24, 0, []), (10, 11, 2, 0, 0, 0, []), (11, 14, 24, 0, 0, 11, []), (14, 15, 0, 3, 0, 0, []), (15, 16, 26, 0, 0, 0, []), (16, 17, 1, 0, 1, 0, []), (17, 18, 8, 0, 0, 0, []), (18, 21, 0, 9999, 0, 0, []), (21, 24, 20, 0, 26, 5, []), (24, 25, 0, -1, 0, 0, []), (25, 26, 34, 0, 0, 0, []), (26, 27, 0, 0, 0, 0, []), (27, 28, 4, 0, 2, 0, []), (28, 29, 0, 0, 0, 0, []), (29, 30, 4, 0, 3, 0, []), (30, 31, 1, 0, 3, 0, []), (31, 32, 1, 0, 1, 0, []), (32, 35, 20, 0, 52, 3, []), (35, 36, 2, 0, 0, 0, []), (36, 39, 44, 0, 211, 1, [(0, 11)]), (39, 40, 1, 0, 2, 0, []), (40, 41, 2, 0, 0, 0, []), (41, 44, 44, 0, 226, 1, [(0, 11)]), (44, 45, 8, 0, 0, 0, []), (45, 46, 4, 0, 2, 0, []), (46, 49, 7, 1, 3, 0, []), (49, 52, 18, 0, 30, 0, []), (52, 53, 1, 0, 2, 0, []), (53, 54, 34, 0, 0, 0, [])]
set_option maxRecDepth 100000 in
theorem ok227 : k227.all (chk 227 (qbt 227) (qow 227)) = true := by decide +kernel
/-- ClayBootsModel.of(II)I -/
def k228 : List En := [(0, 1, 2, 0, 0, 0, []), (1, 2, 1, 0, 1, 0, []), (2, 5, 44, 0, 157, 2, [(0, 11)]), (5, 8, 19, 0, 10, 1, []), (8, 9, 0, -1, 0, 0, []), (9, 10, 34, 0, 0, 0, []), (10, 11, 1, 0, 2, 0, []), (11, 44, 23, 0, 93, 0, [(0, 44), (1, 55), (2, 66), (3, 77), (4, 87)]), (44, 45, 2, 0, 0, 0, []), (45, 48, 24, 0, 0, 11, []), (48, 51, 0, 251, 0, 0, []), (51, 52, 1, 0, 1, 0, []), (52, 53, 8, 0, 0, 0, []), (53, 54, 26, 0, 0, 0, []), (54, 55, 34, 0, 0, 0, []), (55, 56, 2, 0, 0, 0, []), (56, 59, 24, 0, 0, 11, []), (59, 62, 0, 263, 0, 0, []), (62, 63, 1, 0, 1, 0, []), (63, 64, 8, 0, 0, 0, []), (64, 65, 26, 0, 0, 0, []), (65, 66, 34, 0, 0, 0, []), (66, 67, 2, 0, 0, 0, []), (67, 70, 24, 0, 0, 11, []), (70, 73, 0, 275, 0, 0, []), (73, 74, 1, 0, 1, 0, []), (74, 75, 8, 0, 0, 0, []), (75, 76, 26, 0, 0, 0, []), (76, 77, 34, 0, 0, 0, []), (77, 78, 2, 0, 0, 0, []), (78, 81, 24, 0, 0, 11, []), (81, 83, 0, 17, 0, 0, []), (83, 84, 1, 0, 1, 0, []), (84, 85, 8, 0, 0, 0, []), (85, 86, 26, 0, 0, 0, []), (86, 87, 34, 0, 0, 0, []), (87, 88, 2, 0, 0, 0, []), (88, 89, 1, 0, 1, 0, []), (89, 92, 44, 0, 206, 2, [(0, 11)]), (92, 93, 34, 0, 0, 0, []), (93, 94, 2, 0, 0, 0, []), (94, 95, 1, 0, 2, 0, []), (95, 97, 0, 10, 0, 0, []), (97, 98, 8, 0, 1, 0, []), (98, 101, 44, 0, 155, 2, [(0, 11)]), (101, 104, 19, 0, 122, 0, []), (104, 105, 2, 0, 0, 0, []), (105, 108, 24, 0, 0, 11, []), (108, 110, 0, 109, 0, 0, []), (110, 112, 0, 10, 0, 0, []), (112, 113, 1, 0, 1, 0, []), (113, 114, 8, 0, 2, 0, []), (114, 115, 8, 0, 0, 0, []), (115, 116, 1, 0, 2, 0, []), (116, 117, 8, 0, 0, 0, []), (117, 119, 0, 10, 0, 0, []), (119, 120, 8, 0, 1, 0, []), (120, 121, 26, 0, 0, 0, []), (121, 122, 34, 0, 0, 0, []), (122, 123, 2, 0, 0, 0, []), (123, 124, 1, 0, 2, 0, []), (124, 126, 0, 20, 0, 0, []), (126, 127, 8, 0, 1, 0, []), (127, 130, 44, 0, 155, 2, [(0, 11)]), (130, 133, 19, 0, 145, 0, []), (133, 134, 2, 0, 0, 0, []), (134, 135, 1, 0, 1, 0, []), (135, 136, 1, 0, 2, 0, []), (136, 138, 0, 20, 0, 0, []), (138, 139, 8, 0, 1, 0, []), (139, 142, 44, 0, 208, 3, [(0, 11)]), (142, 145, 18, 0, 146, 0, []), (145, 146, 0, -1, 0, 0, []), (146, 147, 34, 0, 0, 0, [])]
set_option maxRecDepth 100000 in
theorem ok228 : k228.all (chk 228 (qbt 228) (qow 228)) = true := by decide +kernel
/-- ClayBootsModel.holder(I)I -/
def k229 : List En := [(0, 1, 0, -1, 0, 0, []), (1, 2, 4, 0, 2, 0, []), (2, 3, 0, 0, 0, 0, []), (3, 4, 4, 0, 3, 0, []), (4, 5, 1, 0, 3, 0, []), (5, 6, 2, 0, 0, 0, []), (6, 9, 24, 0, 0, 11, []), (9, 12, 0, 230, 0, 0, []), (12, 13, 26, 0, 0, 0, []), (13, 16, 20, 0, 64, 3, []), (16, 17, 2, 0, 0, 0, []), (17, 20, 24, 0, 0, 11, []), (20, 22, 0, 29, 0, 0, []), (22, 24, 0, 10, 0, 0, []), (24, 25, 1, 0, 3, 0, []), (25, 26, 8, 0, 2, 0, []), (26, 27, 8, 0, 0, 0, []), (27, 28, 1, 0, 1, 0, []), (28, 29, 8, 0, 0, 0, []), (29, 30, 26, 0, 0, 0, []), (30, 31, 1, 0, 2, 0, []), (31, 32, 0, -1, 0, 0, []), (32, 35, 20, 0, 39, 1, []), (35, 36, 0, 0, 0, 0, []), (36, 39, 18, 0, 53, 0, []), (39, 40, 2, 0, 0, 0, []), (40, 43, 24, 0, 0, 11, []), (43, 45, 0, 29, 0, 0, []), (45, 47, 0, 10, 0, 0, []), (47, 48, 1, 0, 2, 0, []), (48, 49, 8, 0, 2, 0, []), (49, 50, 8, 0, 0, 0, []), (50, 51, 1, 0, 1, 0, []), (51, 52, 8, 0, 0, 0, []), (52, 53, 26, 0, 0, 0, []), (53, 56, 20, 0, 58, 5, []), (56, 57, 1, 0, 3, 0, []), (57, 58, 4, 0, 2, 0, []), (58, 61, 7, 1, 3, 0, []), (61, 64, 18, 0, 4, 0, []), (64, 65, 1, 0, 2, 0, []), (65, 66, 34, 0, 0, 0, [])]
set_option maxRecDepth 100000 in
theorem ok229 : k229.all (chk 229 (qbt 229) (qow 229)) = true := by decide +kernel
/-- ClayBootsModel.fieldOf(II)I -/
def k230 : List En := [(0, 1, 2, 0, 0, 0, []), (1, 2, 1, 0, 1, 0, []), (2, 5, 44, 0, 155, 2, [(0, 11)]), (5, 8, 19, 0, 17, 0, []), (8, 9, 1, 0, 2, 0, []), (9, 10, 0, 0, 0, 0, []), (10, 11, 0, 2, 0, 0, []), (11, 14, 38, 0, 151, 3, []), (14, 17, 19, 0, 22, 1, []), (17, 19, 0, -2, 0, 0, []), (19, 22, 18, 0, 61, 0, []), (22, 23, 1, 0, 2, 0, []), (23, 26, 19, 0, 39, 1, []), (26, 27, 2, 0, 0, 0, []), (27, 30, 24, 0, 0, 11, []), (30, 33, 0, 241, 0, 0, []), (33, 34, 1, 0, 1, 0, []), (34, 35, 8, 0, 0, 0, []), (35, 36, 26, 0, 0, 0, []), (36, 39, 18, 0, 61, 0, []), (39, 40, 1, 0, 2, 0, []), (40, 41, 0, 1, 0, 0, []), (41, 44, 20, 0, 56, 1, []), (44, 45, 2, 0, 0, 0, []), (45, 48, 24, 0, 0, 11, []), (48, 50, 0, 7, 0, 0, []), (50, 51, 1, 0, 1, 0, []), (51, 52, 8, 0, 0, 0, []), (52, 53, 26, 0, 0, 0, []), (53, 56, 18, 0, 61, 0, []), (56, 57, 2, 0, 0, 0, []), (57, 58, 1, 0, 1, 0, []), (58, 61, 44, 0, 229, 2, [(0, 11)]), (61, 62, 34, 0, 0, 0, [])]
set_option maxRecDepth 100000 in
theorem ok230 : k230.all (chk 230 (qbt 230) (qow 230)) = true := by decide +kernel
/-- ClayBootsModel.acres(I)I -/
def k231 : List En := [(0, 1, 0, 0, 0, 0, []), (1, 2, 4, 0, 2, 0, []), (2, 3, 0, 0, 0, 0, []), (3, 4, 4, 0, 3, 0, []), (4, 5, 1, 0, 3, 0, []), (5, 7, 0, 10, 0, 0, []), (7, 10, 20, 0, 33, 3, []), (10, 11, 1, 0, 2, 0, []), (11, 12, 2, 0, 0, 0, []), (12, 15, 24, 0, 0, 11, []), (15, 17, 0, 29, 0, 0, []), (17, 19, 0, 10, 0, 0, []), (19, 20, 1, 0, 1, 0, []), (20, 21, 8, 0, 2, 0, []), (21, 22, 8, 0, 0, 0, []), (22, 23, 1, 0, 3, 0, []), (23, 24, 8, 0, 0, 0, []), (24, 25, 26, 0, 0, 0, []), (25, 26, 8, 0, 0, 0, []), (26, 27, 4, 0, 2, 0, []), (27, 30, 7, 1, 3, 0, []), (30, 33, 18, 0, 4, 0, []), (33, 34, 1, 0, 2, 0, []), (34, 35, 34, 0, 0, 0, [])]
set_option maxRecDepth 100000 in
theorem ok231 : k231.all (chk 231 (qbt 231) (qow 231)) = true := by decide +kernel
/-- ClayBootsModel.county(I)I -/
def k232 : List En := [(0, 1, 0, 0, 0, 0, []), (1, 2, 4, 0, 2, 0, []), (2, 3, 0, 0, 0, 0, []), (3, 4, 4, 0, 3, 0, []), (4, 5, 1, 0, 3, 0, []), (5, 6, 2, 0, 0, 0, []), (6, 9, 24, 0, 0, 11, []), (9, 12, 0, 229, 0, 0, []), (12, 13, 26, 0, 0, 0, []), (13, 16, 20, 0, 41, 3, []), (16, 17, 1, 0, 2, 0, []), (17, 18, 2, 0, 0, 0, []), (18, 19, 1, 0, 3, 0, []), (19, 22, 44, 0, 229, 2, [(0, 11)]), (22, 23, 1, 0, 1, 0, []), (23, 26, 20, 0, 32, 1, []), (26, 27, 0, 1, 0, 0, []), (27, 28, 1, 0, 3, 0, []), (28, 29, 8, 0, 6, 0, []), (29, 32, 18, 0, 33, 0, []), (32, 33, 0, 0, 0, 0, []), (33, 34, 8, 0, 4, 0, []), (34, 35, 4, 0, 2, 0, []), (35, 38, 7, 1, 3, 0, []), (38, 41, 18, 0, 4, 0, []), (41, 42, 1, 0, 2, 0, []), (42, 43, 34, 0, 0, 0, [])]
set_option maxRecDepth 100000 in
theorem ok232 : k232.all (chk 232 (qbt 232) (qow 232)) = true := by decide +kernel
/-- ClayBootsModel.doorOf(II)I -/
def k233 : List En := [(0, 1, 2, 0, 0, 0, []), (1, 2, 1, 0, 1, 0, []), (2, 5, 44, 0, 156, 2, [(0, 11)]), (5, 8, 19, 0, 11, 1, []), (8, 10, 0, -2, 0, 0, []), (10, 11, 34, 0, 0, 0, []), (11, 12, 1, 0, 2, 0, []), (12, 40, 23, 0, 66, 0, [(0, 40), (1, 54), (2, 60)]), (40, 41, 2, 0, 0, 0, []), (41, 42, 1, 0, 1, 0, []), (42, 45, 44, 0, 158, 2, [(0, 11)]), (45, 48, 19, 0, 52, 0, []), (48, 49, 0, 1, 0, 0, []), (49, 52, 18, 0, 53, 0, []), (52, 53, 0, 0, 0, 0, []), (53, 54, 34, 0, 0, 0, []), (54, 55, 2, 0, 0, 0, []), (55, 56, 1, 0, 1, 0, []), (56, 59, 44, 0, 231, 2, [(0, 11)]), (59, 60, 34, 0, 0, 0, []), (60, 61, 2, 0, 0, 0, []), (61, 62, 1, 0, 1, 0, []), (62, 65, 44, 0, 232, 2, [(0, 11)]), (65, 66, 34, 0, 0, 0, []), (66, 67, 2, 0, 0, 0, []), (67, 68, 1, 0, 2, 0, []), (68, 70, 0, 10, 0, 0, []), (70, 71, 8, 0, 1, 0, []), (71, 74, 44, 0, 155, 2, [(0, 11)]), (74, 77, 19, 0, 95, 0, []), (77, 78, 2, 0, 0, 0, []), (78, 81, 24, 0, 0, 11, []), (81, 83, 0, 29, 0, 0, []), (83, 85, 0, 10, 0, 0, []), (85, 86, 1, 0, 1, 0, []), (86, 87, 8, 0, 2, 0, []), (87, 88, 8, 0, 0, 0, []), (88, 89, 1, 0, 2, 0, []), (89, 90, 8, 0, 0, 0, []), (90, 92, 0, 10, 0, 0, []), (92, 93, 8, 0, 1, 0, []), (93, 94, 26, 0, 0, 0, []), (94, 95, 34, 0, 0, 0, []), (95, 96, 2, 0, 0, 0, []), (96, 97, 1, 0, 2, 0, []), (97, 99, 0, 20, 0, 0, []), (99, 100, 8, 0, 1, 0, []), (100, 103, 44, 0, 156, 2, [(0, 11)]), (103, 106, 19, 0, 127, 0, []), (106, 107, 2, 0, 0, 0, []), (107, 110, 24, 0, 0, 11, []), (110, 113, 0, 479, 0, 0, []), (113, 115, 0, 8, 0, 0, []), (115, 116, 1, 0, 1, 0, []), (116, 117, 8, 0, 2, 0, []), (117, 118, 8, 0, 0, 0, []), (118, 119, 1, 0, 2, 0, []), (119, 120, 8, 0, 0, 0, []), (120, 122, 0, 20, 0, 0, []), (122, 123, 8, 0, 1, 0, []), (123, 124, 26, 0, 0, 0, []), (124, 127, 18, 0, 129, 0, []), (127, 129, 0, -2, 0, 0, []), (129, 130, 34, 0, 0, 0, [])]
set_option maxRecDepth 100000 in
theorem ok233 : k233.all (chk 233 (qbt 233) (qow 233)) = true := by decide +kernel
/-- ClayBootsModel.tells(IIII)I -/
def k234 : List En := [(0, 1, 2, 0, 0, 0, []), (1, 2, 1, 0, 1, 0, []), (2, 5, 44, 0, 157, 2, [(0, 11)]), (5, 8, 19, 0, 39, 0, []), (8, 9, 2, 0, 0, 0, []), (9, 10, 1, 0, 3, 0, []), (10, 13, 44, 0, 156, 2, [(0, 11)]), (13, 16, 19, 0, 39, 0, []), (16, 18, 1, 0, 4, 0, []), (18, 19, 0, 0, 0, 0, []), (19, 20, 0, 1, 0, 0, []), (20, 23, 38, 0, 151, 3, []), (23, 26, 19, 0, 39, 0, []), (26, 28, 1, 0, 4, 0, []), (28, 31, 19, 0, 41, 1, []), (31, 32, 2, 0, 0, 0, []), (32, 33, 1, 0, 2, 0, []), (33, 36, 44, 0, 155, 2, [(0, 11)]), (36, 39, 19, 0, 41, 1, []), (39, 40, 0, -1, 0, 0, []), (40, 41, 34, 0, 0, 0, []), (41, 43, 1, 0, 4, 0, []), (43, 46, 19, 0, 56, 1, []), (46, 47, 2, 0, 0, 0, []), (47, 48, 1, 0, 1, 0, []), (48, 49, 1, 0, 2, 0, []), (49, 50, 1, 0, 3, 0, []), (50, 53, 44, 0, 209, 4, [(0, 11)]), (53, 56, 18, 0, 62, 0, []), (56, 57, 2, 0, 0, 0, []), (57, 58, 1, 0, 1, 0, []), (58, 59, 1, 0, 3, 0, []), (59, 62, 44, 0, 210, 3, [(0, 11)]), (62, 63, 34, 0, 0, 0, [])]
set_option maxRecDepth 100000 in
theorem ok234 : k234.all (chk 234 (qbt 234) (qow 234)) = true := by decide +kernel
/-- ClayBootsModel.book(II)I -/
def k235 : List En := [(0, 1, 1, 0, 1, 0, []), (1, 2, 0, 0, 0, 0, []), (2, 3, 2, 0, 0, 0, []), (3, 6, 24, 0, 0, 11, []), (6, 7, 0, 5, 0, 0, []), (7, 8, 26, 0, 0, 0, []), (8, 9, 0, 1, 0, 0, []), (9, 10, 8, 0, 1, 0, []), (10, 13, 38, 0, 151, 3, []), (13, 16, 19, 0, 42, 0, []), (16, 17, 1, 0, 2, 0, []), (17, 18, 0, 0, 0, 0, []), (18, 19, 0, 3, 0, 0, []), (19, 22, 38, 0, 151, 3, []), (22, 25, 19, 0, 42, 0, []), (25, 26, 2, 0, 0, 0, []), (26, 29, 24, 0, 0, 11, []), (29, 32, 0, 645, 0, 0, []), (32, 33, 0, 4, 0, 0, []), (33, 34, 1, 0, 1, 0, []), (34, 35, 8, 0, 2, 0, []), (35, 36, 8, 0, 0, 0, []), (36, 37, 1, 0, 2, 0, []), (37, 38, 8, 0, 0, 0, []), (38, 39, 26, 0, 0, 0, []), (39, 42, 18, 0, 43, 0, []), (42, 43, 0, -1, 0, 0, []), (43, 44, 34, 0, 0, 0, [])]
set_option maxRecDepth 100000 in
theorem ok235 : k235.all (chk 235 (qbt 235) (qow 235)) = true := by decide +kernel
/-- ClayBootsModel.lays()V -/
def k236 : List En := [(0, 1, 0, 0, 0, 0, []), (1, 2, 4, 0, 1, 0, []), (2, 3, 1, 0, 1, 0, []), (3, 6, 0, 229, 0, 0, []), (6, 9, 20, 0, 27, 3, []), (9, 10, 2, 0, 0, 0, []), (10, 13, 24, 0, 3, 11, []), (13, 14, 1, 0, 1, 0, []), (14, 15, 2, 0, 0, 0, []), (15, 18, 24, 0, 0, 11, []), (18, 19, 1, 0, 1, 0, []), (19, 20, 26, 0, 0, 0, []), (20, 21, 27, 0, 0, 0, []), (21, 24, 7, 1, 1, 0, []), (24, 27, 18, 0, 2, 0, []), (27, 28, 2, 0, 0, 0, []), (28, 29, 0, 0, 0, 0, []), (29, 32, 25, 0, 26, 11, []), (32, 33, 37, 0, 0, 0, [])]
set_option maxRecDepth 100000 in
theorem ok236 : k236.all (chk 236 (qbt 236) (qow 236)) = true := by decide +kernel
/-- ClayBootsModel.putsBack()V -/
def k237 : List En := [(0, 1, 0, 0, 0, 0, []), (1, 2, 4, 0, 1, 0, []), (2, 3, 1, 0, 1, 0, []), (3, 6, 0, 229, 0, 0, []), (6, 9, 20, 0, 27, 3, []), (9, 10, 2, 0, 0, 0, []), (10, 13, 24, 0, 0, 11, []), (13, 14, 1, 0, 1, 0, []), (14, 15, 2, 0, 0, 0, []), (15, 18, 24, 0, 3, 11, []), (18, 19, 1, 0, 1, 0, []), (19, 20, 26, 0, 0, 0, []), (20, 21, 27, 0, 0, 0, []), (21, 24, 7, 1, 1, 0, []), (24, 27, 18, 0, 2, 0, []), (27, 28, 37, 0, 0, 0, [])]
set_option maxRecDepth 100000 in
theorem ok237 : k237.all (chk 237 (qbt 237) (qow 237)) = true := by decide +kernel
/-- ClayBootsModel.goes(II)I -/
def k238 : List En := [(0, 1, 1, 0, 1, 0, []), (1, 2, 0, 1, 0, 0, []), (2, 4, 0, 60, 0, 0, []), (4, 7, 38, 0, 151, 3, []), (7, 10, 19, 0, 19, 0, []), (10, 11, 1, 0, 2, 0, []), (11, 12, 0, 0, 0, 0, []), (12, 13, 0, 2, 0, 0, []), (13, 16, 38, 0, 151, 3, []), (16, 19, 19, 0, 21, 1, []), (19, 20, 0, -1, 0, 0, []), (20, 21, 34, 0, 0, 0, []), (21, 22, 2, 0, 0, 0, []), (22, 25, 44, 0, 236, 1, [(0, 11)]), (25, 26, 0, 0, 0, 0, []), (26, 27, 4, 0, 3, 0, []), (27, 28, 1, 0, 3, 0, []), (28, 29, 1, 0, 1, 0, []), (29, 32, 20, 0, 43, 3, []), (32, 33, 2, 0, 0, 0, []), (33, 36, 44, 0, 226, 1, [(0, 11)]), (36, 37, 17, 0, 0, 0, []), (37, 40, 7, 1, 3, 0, []), (40, 43, 18, 0, 27, 0, []), (43, 44, 1, 0, 2, 0, []), (44, 47, 19, 0, 56, 1, []), (47, 48, 2, 0, 0, 0, []), (48, 51, 24, 0, 0, 11, []), (51, 52, 0, 2, 0, 0, []), (52, 53, 26, 0, 0, 0, []), (53, 56, 18, 0, 57, 0, []), (56, 57, 0, 0, 0, 0, []), (57, 58, 4, 0, 3, 0, []), (58, 59, 0, 0, 0, 0, []), (59, 61, 4, 0, 4, 0, []), (61, 63, 1, 0, 4, 0, []), (63, 64, 2, 0, 0, 0, []), (64, 67, 24, 0, 0, 11, []), (67, 70, 0, 231, 0, 0, []), (70, 71, 26, 0, 0, 0, []), (71, 74, 20, 0, 94, 3, []), (74, 75, 1, 0, 2, 0, []), (75, 76, 0, 1, 0, 0, []), (76, 79, 20, 0, 94, 1, []), (79, 80, 1, 0, 3, 0, []), (80, 81, 2, 0, 0, 0, []), (81, 83, 1, 0, 4, 0, []), (83, 86, 44, 0, 206, 2, [(0, 11)]), (86, 87, 8, 0, 0, 0, []), (87, 88, 4, 0, 3, 0, []), (88, 91, 7, 1, 4, 0, []), (91, 94, 18, 0, 61, 0, []), (94, 95, 0, 0, 0, 0, []), (95, 97, 4, 0, 4, 0, []), (97, 99, 1, 0, 4, 0, []), (99, 100, 2, 0, 0, 0, []), (100, 103, 24, 0, 0, 11, []), (103, 106, 0, 229, 0, 0, []), (106, 107, 26, 0, 0, 0, []), (107, 110, 20, 0, 139, 3, []), (110, 111, 1, 0, 2, 0, []), (111, 112, 0, 2, 0, 0, []), (112, 115, 20, 0, 139, 1, []), (115, 116, 1, 0, 3, 0, []), (116, 117, 2, 0, 0, 0, []), (117, 119, 1, 0, 4, 0, []), (119, 122, 44, 0, 229, 2, [(0, 11)]), (122, 123, 0, -1, 0, 0, []), (123, 126, 20, 0, 130, 1, []), (126, 127, 0, 0, 0, 0, []), (127, 130, 18, 0, 131, 0, []), (130, 131, 0, 1, 0, 0, []), (131, 132, 8, 0, 0, 0, []), (132, 133, 4, 0, 3, 0, []), (133, 136, 7, 1, 4, 0, []), (136, 139, 18, 0, 97, 0, []), (139, 140, 2, 0, 0, 0, []), (140, 143, 44, 0, 237, 1, [(0, 11)]), (143, 144, 1, 0, 3, 0, []), (144, 145, 34, 0, 0, 0, [])]
set_option maxRecDepth 100000 in
theorem ok238 : k238.all (chk 238 (qbt 238) (qow 238)) = true := by decide +kernel
/-- ClayBootsModel.are(III)Z -/
def k239 : List En := [(0, 1, 2, 0, 0, 0, []), (1, 2, 1, 0, 1, 0, []), (2, 5, 44, 0, 157, 2, [(0, 11)]), (5, 8, 19, 0, 28, 0, []), (8, 9, 2, 0, 0, 0, []), (9, 10, 1, 0, 2, 0, []), (10, 13, 44, 0, 155, 2, [(0, 11)]), (13, 16, 19, 0, 28, 0, []), (16, 17, 2, 0, 0, 0, []), (17, 18, 1, 0, 3, 0, []), (18, 21, 44, 0, 156, 2, [(0, 11)]), (21, 24, 19, 0, 28, 0, []), (24, 25, 0, 1, 0, 0, []), (25, 28, 18, 0, 29, 0, []), (28, 29, 0, 0, 0, 0, []), (29, 30, 35, 0, 0, 0, [])]
set_option maxRecDepth 100000 in
theorem ok239 : k239.all (chk 239 (qbt 239) (qow 239)) = true := by decide +kernel
/-- ClayBootsModel.would(IIII)I -/
def k240 : List En := [(0, 1, 2, 0, 0, 0, []), (1, 2, 1, 0, 1, 0, []), (2, 3, 1, 0, 2, 0, []), (3, 4, 1, 0, 3, 0, []), (4, 7, 44, 0, 239, 4, [(0, 11)]), (7, 10, 19, 0, 20, 0, []), (10, 12, 1, 0, 4, 0, []), (12, 13, 0, 0, 0, 0, []), (13, 14, 0, 1, 0, 0, []), (14, 17, 38, 0, 151, 3, []), (17, 20, 19, 0, 22, 1, []), (20, 21, 0, -1, 0, 0, []), (21, 22, 34, 0, 0, 0, []), (22, 23, 2, 0, 0, 0, []), (23, 26, 44, 0, 236, 1, [(0, 11)]), (26, 27, 2, 0, 0, 0, []), (27, 30, 24, 0, 27, 11, []), (30, 31, 0, 0, 0, 0, []), (31, 32, 1, 0, 2, 0, []), (32, 33, 27, 0, 0, 0, []), (33, 34, 2, 0, 0, 0, []), (34, 35, 0, 1, 0, 0, []), (35, 38, 25, 0, 28, 11, []), (38, 39, 2, 0, 0, 0, []), (39, 40, 1, 0, 1, 0, []), (40, 41, 1, 0, 3, 0, []), (41, 44, 44, 0, 216, 3, [(0, 11)]), (44, 46, 4, 0, 5, 0, []), (46, 47, 2, 0, 0, 0, []), (47, 50, 44, 0, 237, 1, [(0, 11)]), (50, 52, 1, 0, 4, 0, []), (52, 55, 19, 0, 60, 1, []), (55, 57, 1, 0, 5, 0, []), (57, 60, 18, 0, 64, 0, []), (60, 61, 2, 0, 0, 0, []), (61, 64, 24, 0, 29, 11, []), (64, 65, 34, 0, 0, 0, [])]
set_option maxRecDepth 100000 in
theorem ok240 : k240.all (chk 240 (qbt 240) (qow 240)) = true := by decide +kernel
/-- ClayBootsModel.many(IIII)I -/
def k241 : List En := [(0, 1, 2, 0, 0, 0, []), (1, 2, 1, 0, 1, 0, []), (2, 3, 1, 0, 2, 0, []), (3, 4, 1, 0, 3, 0, []), (4, 7, 44, 0, 239, 4, [(0, 11)]), (7, 10, 19, 0, 22, 0, []), (10, 12, 1, 0, 4, 0, []), (12, 13, 0, 1, 0, 0, []), (13, 16, 0, 9999, 0, 0, []), (16, 19, 38, 0, 151, 3, []), (19, 22, 19, 0, 24, 1, []), (22, 23, 0, -1, 0, 0, []), (23, 24, 34, 0, 0, 0, []), (24, 25, 2, 0, 0, 0, []), (25, 28, 44, 0, 236, 1, [(0, 11)]), (28, 29, 2, 0, 0, 0, []), (29, 32, 24, 0, 27, 11, []), (32, 33, 0, 0, 0, 0, []), (33, 34, 1, 0, 2, 0, []), (34, 35, 27, 0, 0, 0, []), (35, 36, 2, 0, 0, 0, []), (36, 37, 0, 1, 0, 0, []), (37, 40, 25, 0, 28, 11, []), (40, 41, 0, 0, 0, 0, []), (41, 43, 4, 0, 5, 0, []), (43, 45, 1, 0, 5, 0, []), (45, 47, 0, 100, 0, 0, []), (47, 50, 20, 0, 82, 3, []), (50, 51, 2, 0, 0, 0, []), (51, 54, 24, 0, 0, 11, []), (54, 56, 0, 29, 0, 0, []), (56, 58, 0, 10, 0, 0, []), (58, 59, 1, 0, 3, 0, []), (59, 60, 8, 0, 2, 0, []), (60, 61, 8, 0, 0, 0, []), (61, 62, 1, 0, 2, 0, []), (62, 63, 8, 0, 0, 0, []), (63, 64, 26, 0, 0, 0, []), (64, 66, 1, 0, 4, 0, []), (66, 69, 20, 0, 82, 3, []), (69, 70, 2, 0, 0, 0, []), (70, 71, 1, 0, 1, 0, []), (71, 72, 1, 0, 3, 0, []), (72, 75, 44, 0, 216, 3, [(0, 11)]), (75, 76, 17, 0, 0, 0, []), (76, 79, 7, 1, 5, 0, []), (79, 82, 18, 0, 43, 0, []), (82, 83, 2, 0, 0, 0, []), (83, 86, 44, 0, 237, 1, [(0, 11)]), (86, 88, 1, 0, 5, 0, []), (88, 90, 0, 100, 0, 0, []), (90, 93, 20, 0, 97, 1, []), (93, 94, 0, -1, 0, 0, []), (94, 97, 18, 0, 99, 0, []), (97, 99, 1, 0, 5, 0, []), (99, 100, 34, 0, 0, 0, [])]
set_option maxRecDepth 100000 in
theorem ok241 : k241.all (chk 241 (qbt 241) (qow 241)) = true := by decide +kernel
/-- ClayBootsModel.laysOrder(II)Z -/
def k242 : List En := [(0, 1, 1, 0, 1, 0, []), (1, 2, 4, 0, 3, 0, []), (2, 3, 0, 0, 0, 0, []), (3, 5, 4, 0, 4, 0, []), (5, 6, 1, 0, 2, 0, []), (6, 7, 0, 1, 0, 0, []), (7, 8, 8, 0, 1, 0, []), (8, 10, 4, 0, 5, 0, []), (10, 12, 1, 0, 5, 0, []), (12, 15, 19, 0, 50, 2, []), (15, 16, 2, 0, 0, 0, []), (16, 19, 24, 0, 27, 11, []), (19, 21, 1, 0, 5, 0, []), (21, 22, 2, 0, 0, 0, []), (22, 25, 24, 0, 30, 11, []), (25, 26, 1, 0, 3, 0, []), (26, 27, 1, 0, 2, 0, []), (27, 28, 10, 0, 0, 0, []), (28, 29, 26, 0, 0, 0, []), (29, 30, 27, 0, 0, 0, []), (30, 32, 1, 0, 4, 0, []), (32, 33, 0, 1, 0, 0, []), (33, 34, 1, 0, 3, 0, []), (34, 35, 1, 0, 2, 0, []), (35, 36, 10, 0, 0, 0, []), (36, 37, 8, 0, 6, 0, []), (37, 38, 8, 0, 4, 0, []), (38, 40, 4, 0, 4, 0, []), (40, 41, 1, 0, 3, 0, []), (41, 42, 1, 0, 2, 0, []), (42, 43, 9, 0, 0, 0, []), (43, 44, 4, 0, 3, 0, []), (44, 47, 7, -1, 5, 0, []), (47, 50, 18, 0, 10, 0, []), (50, 51, 2, 0, 0, 0, []), (51, 52, 1, 0, 2, 0, []), (52, 55, 25, 0, 28, 11, []), (55, 57, 1, 0, 4, 0, []), (57, 58, 0, 1, 0, 0, []), (58, 59, 1, 0, 2, 0, []), (59, 60, 8, 0, 6, 0, []), (60, 61, 0, 1, 0, 0, []), (61, 62, 8, 0, 1, 0, []), (62, 65, 20, 0, 69, 1, []), (65, 66, 0, 1, 0, 0, []), (66, 69, 18, 0, 70, 0, []), (69, 70, 0, 0, 0, 0, []), (70, 71, 35, 0, 0, 0, [])]
set_option maxRecDepth 100000 in
theorem ok242 : k242.all (chk 242 (qbt 242) (qow 242)) = true := by decide +kernel
/-- ClayBootsModel.order(IIII)I -/
def k243 : List En := [(0, 1, 2, 0, 0, 0, []), (1, 2, 1, 0, 1, 0, []), (2, 5, 44, 0, 157, 2, [(0, 11)]), (5, 8, 19, 0, 36, 0, []), (8, 9, 2, 0, 0, 0, []), (9, 10, 1, 0, 2, 0, []), (10, 13, 44, 0, 156, 2, [(0, 11)]), (13, 16, 19, 0, 36, 0, []), (16, 17, 1, 0, 3, 0, []), (17, 18, 0, 1, 0, 0, []), (18, 19, 0, 1, 0, 0, []), (19, 20, 2, 0, 0, 0, []), (20, 23, 24, 0, 0, 11, []), (23, 26, 0, 229, 0, 0, []), (26, 27, 26, 0, 0, 0, []), (27, 28, 8, 0, 6, 0, []), (28, 29, 0, 1, 0, 0, []), (29, 30, 8, 0, 1, 0, []), (30, 33, 38, 0, 151, 3, []), (33, 36, 19, 0, 38, 1, []), (36, 37, 0, -1, 0, 0, []), (37, 38, 34, 0, 0, 0, []), (38, 39, 0, 0, 0, 0, []), (39, 41, 4, 0, 5, 0, []), (41, 42, 0, 0, 0, 0, []), (42, 44, 4, 0, 6, 0, []), (44, 46, 1, 0, 6, 0, []), (46, 47, 2, 0, 0, 0, []), (47, 50, 24, 0, 0, 11, []), (50, 53, 0, 229, 0, 0, []), (53, 54, 26, 0, 0, 0, []), (54, 57, 20, 0, 95, 3, []), (57, 58, 1, 0, 3, 0, []), (58, 60, 1, 0, 6, 0, []), (60, 61, 8, 0, 7, 0, []), (61, 62, 0, 1, 0, 0, []), (62, 63, 8, 0, 3, 0, []), (63, 66, 19, 0, 69, 1, []), (66, 69, 18, 0, 89, 0, []), (69, 71, 1, 0, 5, 0, []), (71, 72, 0, 5, 0, 0, []), (72, 75, 20, 0, 77, 1, []), (75, 76, 0, -1, 0, 0, []), (76, 77, 34, 0, 0, 0, []), (77, 78, 2, 0, 0, 0, []), (78, 81, 24, 0, 30, 11, []), (81, 83, 1, 0, 5, 0, []), (83, 85, 1, 0, 6, 0, []), (85, 86, 27, 0, 0, 0, []), (86, 89, 7, 1, 5, 0, []), (89, 92, 7, 1, 6, 0, []), (92, 95, 18, 0, 44, 0, []), (95, 97, 1, 0, 4, 0, []), (97, 100, 19, 0, 117, 0, []), (100, 102, 1, 0, 4, 0, []), (102, 104, 0, 10, 0, 0, []), (104, 106, 0, 9, 0, 0, []), (106, 108, 1, 0, 5, 0, []), (108, 109, 8, 0, 0, 0, []), (109, 112, 38, 0, 151, 3, []), (112, 115, 19, 0, 117, 1, []), (115, 116, 0, -1, 0, 0, []), (116, 117, 34, 0, 0, 0, []), (117, 118, 0, 1, 0, 0, []), (118, 120, 4, 0, 6, 0, []), (120, 121, 0, 0, 0, 0, []), (121, 123, 4, 0, 7, 0, []), (123, 125, 1, 0, 7, 0, []), (125, 127, 1, 0, 5, 0, []), (127, 130, 20, 0, 143, 3, []), (130, 132, 1, 0, 6, 0, []), (132, 134, 1, 0, 5, 0, []), (134, 135, 8, 0, 2, 0, []), (135, 137, 4, 0, 6, 0, []), (137, 140, 7, 1, 7, 0, []), (140, 143, 18, 0, 123, 0, []), (143, 144, 0, -1, 0, 0, []), (144, 146, 4, 0, 7, 0, []), (146, 147, 0, 0, 0, 0, []), (147, 149, 4, 0, 8, 0, []), (149, 151, 1, 0, 8, 0, []), (151, 153, 1, 0, 6, 0, []), (153, 156, 20, 0, 236, 3, []), (156, 157, 2, 0, 0, 0, []), (157, 159, 1, 0, 8, 0, []), (159, 161, 1, 0, 5, 0, []), (161, 164, 44, 0, 242, 3, [(0, 11)]), (164, 167, 19, 0, 170, 1, []), (167, 170, 18, 0, 230, 0, []), (170, 171, 2, 0, 0, 0, []), (171, 174, 44, 0, 236, 1, [(0, 11)]), (174, 175, 2, 0, 0, 0, []), (175, 176, 1, 0, 1, 0, []), (176, 177, 1, 0, 2, 0, []), (177, 180, 44, 0, 216, 3, [(0, 11)]), (180, 182, 4, 0, 9, 0, []), (182, 183, 2, 0, 0, 0, []), (183, 186, 44, 0, 237, 1, [(0, 11)]), (186, 188, 1, 0, 9, 0, []), (188, 190, 1, 0, 7, 0, []), (190, 193, 20, 0, 196, 4, []), (193, 196, 18, 0, 230, 0, []), (196, 198, 1, 0, 9, 0, []), (198, 200, 4, 0, 7, 0, []), (200, 201, 0, 0, 0, 0, []), (201, 203, 4, 0, 10, 0, []), (203, 205, 1, 0, 10, 0, []), (205, 207, 1, 0, 5, 0, []), (207, 210, 20, 0, 230, 3, []), (210, 211, 2, 0, 0, 0, []), (211, 214, 24, 0, 31, 11, []), (214, 216, 1, 0, 10, 0, []), (216, 217, 2, 0, 0, 0, []), (217, 220, 24, 0, 27, 11, []), (220, 222, 1, 0, 10, 0, []), (222, 223, 26, 0, 0, 0, []), (223, 224, 27, 0, 0, 0, []), (224, 227, 7, 1, 10, 0, []), (227, 230, 18, 0, 203, 0, []), (230, 233, 7, 1, 8, 0, []), (233, 236, 18, 0, 149, 0, []), (236, 238, 1, 0, 4, 0, []), (238, 241, 19, 0, 246, 1, []), (241, 243, 1, 0, 7, 0, []), (243, 246, 18, 0, 256, 0, []), (246, 247, 2, 0, 0, 0, []), (247, 250, 24, 0, 31, 11, []), (250, 252, 1, 0, 4, 0, []), (252, 254, 0, 10, 0, 0, []), (254, 255, 8, 0, 1, 0, []), (255, 256, 26, 0, 0, 0, []), (256, 257, 34, 0, 0, 0, [])]
set_option maxRecDepth 100000 in
theorem ok243 : k243.all (chk 243 (qbt 243) (qow 243)) = true := by decide +kernel
/-- ClayBootsModel.clay(II)Z -/
def k244 : List En := [(0, 1, 1, 0, 1, 0, []), (1, 2, 0, 0, 0, 0, []), (2, 3, 0, 5, 0, 0, []), (3, 6, 38, 0, 151, 3, []), (6, 9, 19, 0, 19, 0, []), (9, 10, 1, 0, 2, 0, []), (10, 11, 0, 0, 0, 0, []), (11, 13, 0, 30, 0, 0, []), (13, 16, 38, 0, 151, 3, []), (16, 19, 19, 0, 21, 1, []), (19, 20, 0, 0, 0, 0, []), (20, 21, 35, 0, 0, 0, []), (21, 22, 2, 0, 0, 0, []), (22, 25, 24, 0, 0, 11, []), (25, 28, 0, 543, 0, 0, []), (28, 29, 1, 0, 1, 0, []), (29, 30, 8, 0, 0, 0, []), (30, 31, 1, 0, 2, 0, []), (31, 32, 27, 0, 0, 0, []), (32, 33, 0, 1, 0, 0, []), (33, 34, 35, 0, 0, 0, [])]
set_option maxRecDepth 100000 in
theorem ok244 : k244.all (chk 244 (qbt 244) (qow 244)) = true := by decide +kernel
/-- ClayBootsModel.mixOf(I)J -/
def k245 : List En := [(0, 1, 0, 0, 0, 0, []), (1, 2, 4, 0, 2, 0, []), (2, 3, 1, 0, 2, 0, []), (3, 5, 0, 31, 0, 0, []), (5, 8, 20, 0, 29, 3, []), (8, 9, 2, 0, 0, 0, []), (9, 12, 24, 0, 32, 11, []), (12, 13, 1, 0, 2, 0, []), (13, 14, 1, 0, 2, 0, []), (14, 17, 19, 0, 21, 1, []), (17, 18, 42, 0, 1, 0, []), (18, 21, 18, 0, 22, 0, []), (21, 22, 42, 0, 0, 0, []), (22, 23, 31, 0, 0, 0, []), (23, 26, 7, 1, 2, 0, []), (26, 29, 18, 0, 2, 0, []), (29, 30, 0, 0, 0, 0, []), (30, 31, 4, 0, 2, 0, []), (31, 32, 1, 0, 2, 0, []), (32, 33, 2, 0, 0, 0, []), (33, 36, 24, 0, 0, 11, []), (36, 39, 0, 229, 0, 0, []), (39, 40, 26, 0, 0, 0, []), (40, 43, 20, 0, 134, 3, []), (43, 44, 2, 0, 0, 0, []), (44, 47, 24, 0, 0, 11, []), (47, 50, 0, 241, 0, 0, []), (50, 51, 1, 0, 2, 0, []), (51, 52, 8, 0, 0, 0, []), (52, 53, 26, 0, 0, 0, []), (53, 54, 1, 0, 1, 0, []), (54, 57, 20, 0, 60, 0, []), (57, 60, 18, 0, 128, 0, []), (60, 62, 0, 30, 0, 0, []), (62, 63, 4, 0, 3, 0, []), (63, 64, 1, 0, 3, 0, []), (64, 67, 19, 0, 128, 2, []), (67, 68, 0, 1, 0, 0, []), (68, 70, 4, 0, 4, 0, []), (70, 72, 1, 0, 4, 0, []), (72, 73, 1, 0, 3, 0, []), (73, 76, 20, 0, 122, 4, []), (76, 78, 1, 0, 4, 0, []), (78, 79, 2, 0, 0, 0, []), (79, 82, 24, 0, 0, 11, []), (82, 84, 0, 7, 0, 0, []), (84, 85, 1, 0, 2, 0, []), (85, 86, 8, 0, 0, 0, []), (86, 87, 26, 0, 0, 0, []), (87, 90, 20, 0, 122, 4, []), (90, 91, 2, 0, 0, 0, []), (91, 94, 24, 0, 32, 11, []), (94, 95, 1, 0, 3, 0, []), (95, 96, 2, 0, 0, 0, []), (96, 99, 24, 0, 32, 11, []), (99, 100, 1, 0, 3, 0, []), (100, 101, 30, 0, 0, 0, []), (101, 102, 2, 0, 0, 0, []), (102, 105, 24, 0, 32, 11, []), (105, 106, 1, 0, 3, 0, []), (106, 108, 1, 0, 4, 0, []), (108, 109, 8, 0, 1, 0, []), (109, 110, 30, 0, 0, 0, []), (110, 111, 11, 0, 0, 0, []), (111, 114, 42, 0, 1000000007, 0, []), (114, 115, 12, 0, 0, 0, []), (115, 116, 31, 0, 0, 0, []), (116, 119, 7, 1, 4, 0, []), (119, 122, 18, 0, 70, 0, []), (122, 125, 7, -1, 3, 0, []), (125, 128, 18, 0, 63, 0, []), (128, 131, 7, 1, 2, 0, []), (131, 134, 18, 0, 31, 0, []), (134, 135, 2, 0, 0, 0, []), (135, 138, 24, 0, 32, 11, []), (138, 139, 2, 0, 0, 0, []), (139, 142, 24, 0, 0, 11, []), (142, 145, 0, 543, 0, 0, []), (145, 146, 1, 0, 1, 0, []), (146, 147, 8, 0, 0, 0, []), (147, 148, 26, 0, 0, 0, []), (148, 149, 30, 0, 0, 0, []), (149, 150, 36, 0, 0, 0, [])]
set_option maxRecDepth 100000 in
theorem ok245 : k245.all (chk 245 (qbt 245) (qow 245)) = true := by decide +kernel
/-- ClayBootsModel.mix(I)I -/
def k246 : List En := [(0, 1, 1, 0, 1, 0, []), (1, 2, 0, -1, 0, 0, []), (2, 3, 0, 5, 0, 0, []), (3, 6, 38, 0, 151, 3, []), (6, 9, 19, 0, 11, 1, []), (9, 10, 0, -1, 0, 0, []), (10, 11, 34, 0, 0, 0, []), (11, 12, 1, 0, 1, 0, []), (12, 13, 0, -1, 0, 0, []), (13, 16, 20, 0, 23, 0, []), (16, 17, 2, 0, 0, 0, []), (17, 18, 1, 0, 1, 0, []), (18, 21, 44, 0, 245, 2, [(0, 11)]), (21, 22, 14, 0, 0, 0, []), (22, 23, 34, 0, 0, 0, []), (23, 24, 42, 0, 1, 0, []), (24, 25, 6, 0, 2, 0, []), (25, 26, 0, 0, 0, 0, []), (26, 28, 4, 0, 4, 0, []), (28, 30, 1, 0, 4, 0, []), (30, 32, 0, 6, 0, 0, []), (32, 35, 20, 0, 54, 3, []), (35, 36, 3, 0, 2, 0, []), (36, 37, 2, 0, 0, 0, []), (37, 39, 1, 0, 4, 0, []), (39, 42, 44, 0, 245, 2, [(0, 11)]), (42, 43, 11, 0, 1, 0, []), (43, 46, 42, 0, 1000000007, 0, []), (46, 47, 12, 0, 0, 0, []), (47, 48, 6, 0, 2, 0, []), (48, 51, 7, 1, 4, 0, []), (51, 54, 18, 0, 28, 0, []), (54, 55, 3, 0, 2, 0, []), (55, 56, 14, 0, 0, 0, []), (56, 57, 34, 0, 0, 0, [])]
set_option maxRecDepth 100000 in
theorem ok246 : k246.all (chk 246 (qbt 246) (qow 246)) = true := by decide +kernel
/-- ClayBootsModel.garden(II)Z -/
def k247 : List En := [(0, 1, 1, 0, 1, 0, []), (1, 2, 0, 0, 0, 0, []), (2, 4, 0, 7, 0, 0, []), (4, 7, 38, 0, 151, 3, []), (7, 10, 19, 0, 20, 0, []), (10, 11, 1, 0, 2, 0, []), (11, 12, 0, 0, 0, 0, []), (12, 14, 0, 7, 0, 0, []), (14, 17, 38, 0, 151, 3, []), (17, 20, 19, 0, 22, 1, []), (20, 21, 0, 0, 0, 0, []), (21, 22, 35, 0, 0, 0, []), (22, 23, 2, 0, 0, 0, []), (23, 26, 24, 0, 0, 11, []), (26, 29, 0, 549, 0, 0, []), (29, 30, 1, 0, 1, 0, []), (30, 31, 8, 0, 0, 0, []), (31, 32, 1, 0, 2, 0, []), (32, 33, 27, 0, 0, 0, []), (33, 34, 0, 1, 0, 0, []), (34, 35, 35, 0, 0, 0, [])]
set_option maxRecDepth 100000 in
theorem ok247 : k247.all (chk 247 (qbt 247) (qow 247)) = true := by decide +kernel
/-- ClayBootsModel.back(I)I -/
def k248 : List En := [(0, 1, 0, 0, 0, 0, []), (1, 2, 4, 0, 2, 0, []), (2, 3, 0, 0, 0, 0, []), (3, 4, 4, 0, 3, 0, []), (4, 5, 1, 0, 3, 0, []), (5, 7, 0, 8, 0, 0, []), (7, 10, 20, 0, 31, 3, []), (10, 11, 1, 0, 2, 0, []), (11, 12, 0, 1, 0, 0, []), (12, 13, 2, 0, 0, 0, []), (13, 16, 24, 0, 0, 11, []), (16, 19, 0, 549, 0, 0, []), (19, 20, 1, 0, 3, 0, []), (20, 21, 8, 0, 0, 0, []), (21, 22, 26, 0, 0, 0, []), (22, 23, 8, 0, 6, 0, []), (23, 24, 8, 0, 4, 0, []), (24, 25, 4, 0, 2, 0, []), (25, 28, 7, 1, 3, 0, []), (28, 31, 18, 0, 4, 0, []), (31, 32, 1, 0, 1, 0, []), (32, 33, 0, 0, 0, 0, []), (33, 34, 0, 1, 0, 0, []), (34, 37, 38, 0, 151, 3, []), (37, 40, 19, 0, 47, 0, []), (40, 41, 1, 0, 2, 0, []), (41, 44, 0, 255, 0, 0, []), (44, 47, 20, 0, 49, 0, []), (47, 48, 0, -1, 0, 0, []), (48, 49, 34, 0, 0, 0, []), (49, 50, 0, 0, 0, 0, []), (50, 51, 4, 0, 3, 0, []), (51, 52, 0, 0, 0, 0, []), (52, 54, 4, 0, 4, 0, []), (54, 55, 0, 0, 0, 0, []), (55, 57, 4, 0, 5, 0, []), (57, 58, 0, 0, 0, 0, []), (58, 60, 4, 0, 6, 0, []), (60, 62, 1, 0, 6, 0, []), (62, 64, 0, 8, 0, 0, []), (64, 67, 20, 0, 144, 3, []), (67, 68, 0, 0, 0, 0, []), (68, 70, 4, 0, 7, 0, []), (70, 72, 1, 0, 6, 0, []), (72, 74, 4, 0, 8, 0, []), (74, 75, 1, 0, 3, 0, []), (75, 77, 1, 0, 8, 0, []), (77, 78, 8, 0, 7, 0, []), (78, 79, 0, 1, 0, 0, []), (79, 80, 8, 0, 3, 0, []), (80, 83, 19, 0, 109, 1, []), (83, 84, 1, 0, 3, 0, []), (84, 85, 0, 1, 0, 0, []), (85, 87, 1, 0, 8, 0, []), (87, 88, 8, 0, 6, 0, []), (88, 89, 8, 0, 4, 0, []), (89, 90, 4, 0, 3, 0, []), (90, 93, 7, 1, 7, 0, []), (93, 94, 2, 0, 0, 0, []), (94, 97, 24, 0, 0, 11, []), (97, 100, 0, 549, 0, 0, []), (100, 102, 1, 0, 8, 0, []), (102, 103, 8, 0, 0, 0, []), (103, 104, 26, 0, 0, 0, []), (104, 106, 4, 0, 8, 0, []), (106, 109, 18, 0, 74, 0, []), (109, 111, 1, 0, 4, 0, []), (111, 112, 0, 0, 0, 0, []), (112, 114, 1, 0, 7, 0, []), (114, 115, 0, 1, 0, 0, []), (115, 116, 8, 0, 1, 0, []), (116, 119, 38, 0, 153, 2, []), (119, 120, 8, 0, 0, 0, []), (120, 122, 4, 0, 4, 0, []), (122, 124, 1, 0, 5, 0, []), (124, 126, 1, 0, 7, 0, []), (126, 127, 0, 1, 0, 0, []), (127, 130, 20, 0, 134, 5, []), (130, 131, 0, 1, 0, 0, []), (131, 134, 18, 0, 135, 0, []), (134, 135, 0, 0, 0, 0, []), (135, 136, 8, 0, 0, 0, []), (136, 138, 4, 0, 5, 0, []), (138, 141, 7, 1, 6, 0, []), (141, 144, 18, 0, 60, 0, []), (144, 145, 1, 0, 1, 0, []), (145, 148, 19, 0, 153, 1, []), (148, 150, 1, 0, 4, 0, []), (150, 153, 18, 0, 155, 0, []), (153, 155, 1, 0, 5, 0, []), (155, 156, 34, 0, 0, 0, [])]
set_option maxRecDepth 100000 in
theorem ok248 : k248.all (chk 248 (qbt 248) (qow 248)) = true := by decide +kernel
end
section
/-- ClayBootsModel.wear(II)I -/
def k249 : List En := [(0, 1, 1, 0, 1, 0, []), (1, 2, 0, -1, 0, 0, []), (2, 5, 20, 0, 16, 1, []), (5, 6, 2, 0, 0, 0, []), (6, 9, 24, 0, 0, 11, []), (9, 12, 0, 236, 0, 0, []), (12, 13, 0, 0, 0, 0, []), (13, 14, 27, 0, 0, 0, []), (14, 15, 0, 0, 0, 0, []), (15, 16, 34, 0, 0, 0, []), (16, 17, 1, 0, 1, 0, []), (17, 18, 0, 0, 0, 0, []), (18, 20, 0, 99, 0, 0, []), (20, 23, 38, 0, 151, 3, []), (23, 26, 19, 0, 49, 0, []), (26, 27, 1, 0, 2, 0, []), (27, 28, 0, 0, 0, 0, []), (28, 30, 0, 99, 0, 0, []), (30, 33, 38, 0, 151, 3, []), (33, 36, 19, 0, 49, 0, []), (36, 37, 2, 0, 0, 0, []), (37, 40, 24, 0, 0, 11, []), (40, 43, 0, 236, 0, 0, []), (43, 44, 26, 0, 0, 0, []), (44, 46, 0, 10, 0, 0, []), (46, 49, 20, 0, 51, 1, []), (49, 50, 0, -1, 0, 0, []), (50, 51, 34, 0, 0, 0, []), (51, 52, 2, 0, 0, 0, []), (52, 55, 24, 0, 0, 11, []), (55, 58, 0, 557, 0, 0, []), (58, 59, 0, 2, 0, 0, []), (59, 60, 2, 0, 0, 0, []), (60, 63, 24, 0, 0, 11, []), (63, 66, 0, 236, 0, 0, []), (66, 67, 26, 0, 0, 0, []), (67, 68, 8, 0, 2, 0, []), (68, 69, 8, 0, 0, 0, []), (69, 70, 1, 0, 1, 0, []), (70, 71, 27, 0, 0, 0, []), (71, 72, 2, 0, 0, 0, []), (72, 75, 24, 0, 0, 11, []), (75, 78, 0, 557, 0, 0, []), (78, 79, 0, 2, 0, 0, []), (79, 80, 2, 0, 0, 0, []), (80, 83, 24, 0, 0, 11, []), (83, 86, 0, 236, 0, 0, []), (86, 87, 26, 0, 0, 0, []), (87, 88, 8, 0, 2, 0, []), (88, 89, 8, 0, 0, 0, []), (89, 90, 0, 1, 0, 0, []), (90, 91, 8, 0, 0, 0, []), (91, 92, 1, 0, 2, 0, []), (92, 93, 27, 0, 0, 0, []), (93, 94, 2, 0, 0, 0, []), (94, 97, 24, 0, 0, 11, []), (97, 100, 0, 236, 0, 0, []), (100, 101, 16, 0, 0, 0, []), (101, 102, 26, 0, 0, 0, []), (102, 103, 0, 1, 0, 0, []), (103, 104, 8, 0, 0, 0, []), (104, 105, 27, 0, 0, 0, []), (105, 106, 2, 0, 0, 0, []), (106, 109, 24, 0, 0, 11, []), (109, 112, 0, 236, 0, 0, []), (112, 113, 26, 0, 0, 0, []), (113, 114, 34, 0, 0, 0, [])]
set_option maxRecDepth 100000 in
theorem ok249 : k249.all (chk 249 (qbt 249) (qow 249)) = true := by decide +kernel
/-- ClayBootsModel.wornFrom(III)I -/
def k250 : List En := [(0, 1, 2, 0, 0, 0, []), (1, 4, 24, 0, 0, 11, []), (4, 7, 0, 557, 0, 0, []), (7, 8, 0, 2, 0, 0, []), (8, 9, 1, 0, 1, 0, []), (9, 10, 8, 0, 2, 0, []), (10, 11, 8, 0, 0, 0, []), (11, 12, 26, 0, 0, 0, []), (12, 13, 1, 0, 2, 0, []), (13, 16, 38, 0, 154, 2, []), (16, 17, 2, 0, 0, 0, []), (17, 20, 24, 0, 0, 11, []), (20, 23, 0, 557, 0, 0, []), (23, 24, 0, 2, 0, 0, []), (24, 25, 1, 0, 1, 0, []), (25, 26, 8, 0, 2, 0, []), (26, 27, 8, 0, 0, 0, []), (27, 28, 0, 1, 0, 0, []), (28, 29, 8, 0, 0, 0, []), (29, 30, 26, 0, 0, 0, []), (30, 31, 1, 0, 3, 0, []), (31, 34, 38, 0, 154, 2, []), (34, 35, 8, 0, 0, 0, []), (35, 36, 34, 0, 0, 0, [])]
set_option maxRecDepth 100000 in
theorem ok250 : k250.all (chk 250 (qbt 250) (qow 250)) = true := by decide +kernel
/-- ClayBootsModel.whose(II)I -/
def k251 : List En := [(0, 1, 1, 0, 1, 0, []), (1, 2, 0, 0, 0, 0, []), (2, 4, 0, 99, 0, 0, []), (4, 7, 38, 0, 151, 3, []), (7, 10, 19, 0, 31, 0, []), (10, 11, 1, 0, 2, 0, []), (11, 12, 0, 0, 0, 0, []), (12, 14, 0, 99, 0, 0, []), (14, 17, 38, 0, 151, 3, []), (17, 20, 19, 0, 31, 0, []), (20, 21, 2, 0, 0, 0, []), (21, 24, 24, 0, 0, 11, []), (24, 27, 0, 236, 0, 0, []), (27, 28, 26, 0, 0, 0, []), (28, 31, 19, 0, 33, 1, []), (31, 32, 0, -1, 0, 0, []), (32, 33, 34, 0, 0, 0, []), (33, 34, 0, 0, 0, 0, []), (34, 35, 4, 0, 3, 0, []), (35, 36, 0, 1, 0, 0, []), (36, 38, 4, 0, 4, 0, []), (38, 40, 1, 0, 4, 0, []), (40, 41, 2, 0, 0, 0, []), (41, 44, 24, 0, 0, 11, []), (44, 47, 0, 236, 0, 0, []), (47, 48, 26, 0, 0, 0, []), (48, 51, 20, 0, 78, 3, []), (51, 52, 2, 0, 0, 0, []), (52, 54, 1, 0, 4, 0, []), (54, 55, 1, 0, 1, 0, []), (55, 56, 1, 0, 2, 0, []), (56, 59, 44, 0, 250, 4, [(0, 11)]), (59, 60, 2, 0, 0, 0, []), (60, 61, 1, 0, 3, 0, []), (61, 62, 1, 0, 1, 0, []), (62, 63, 1, 0, 2, 0, []), (63, 66, 44, 0, 250, 4, [(0, 11)]), (66, 69, 20, 0, 72, 3, []), (69, 71, 1, 0, 4, 0, []), (71, 72, 4, 0, 3, 0, []), (72, 75, 7, 1, 4, 0, []), (75, 78, 18, 0, 38, 0, []), (78, 79, 1, 0, 3, 0, []), (79, 80, 34, 0, 0, 0, [])]
set_option maxRecDepth 100000 in
theorem ok251 : k251.all (chk 251 (qbt 251) (qow 251)) = true := by decide +kernel
/-- ClayBootsModel.couples(I)I -/
def k252 : List En := [(0, 1, 1, 0, 1, 0, []), (1, 2, 0, 0, 0, 0, []), (2, 5, 0, 198, 0, 0, []), (5, 8, 38, 0, 151, 3, []), (8, 11, 19, 0, 13, 1, []), (11, 12, 0, -1, 0, 0, []), (12, 13, 34, 0, 0, 0, []), (13, 14, 0, 0, 0, 0, []), (14, 15, 4, 0, 2, 0, []), (15, 16, 0, 0, 0, 0, []), (16, 17, 4, 0, 3, 0, []), (17, 18, 1, 0, 3, 0, []), (18, 19, 2, 0, 0, 0, []), (19, 22, 24, 0, 0, 11, []), (22, 25, 0, 236, 0, 0, []), (25, 26, 26, 0, 0, 0, []), (26, 29, 20, 0, 95, 3, []), (29, 30, 0, 0, 0, 0, []), (30, 32, 4, 0, 4, 0, []), (32, 34, 1, 0, 4, 0, []), (34, 35, 1, 0, 3, 0, []), (35, 38, 20, 0, 89, 3, []), (38, 39, 1, 0, 2, 0, []), (39, 40, 2, 0, 0, 0, []), (40, 41, 1, 0, 3, 0, []), (41, 42, 2, 0, 0, 0, []), (42, 45, 24, 0, 0, 11, []), (45, 48, 0, 557, 0, 0, []), (48, 49, 0, 2, 0, 0, []), (49, 51, 1, 0, 4, 0, []), (51, 52, 8, 0, 2, 0, []), (52, 53, 8, 0, 0, 0, []), (53, 54, 26, 0, 0, 0, []), (54, 55, 2, 0, 0, 0, []), (55, 58, 24, 0, 0, 11, []), (58, 61, 0, 557, 0, 0, []), (61, 62, 0, 2, 0, 0, []), (62, 64, 1, 0, 4, 0, []), (64, 65, 8, 0, 2, 0, []), (65, 66, 8, 0, 0, 0, []), (66, 67, 0, 1, 0, 0, []), (67, 68, 8, 0, 0, 0, []), (68, 69, 26, 0, 0, 0, []), (69, 72, 44, 0, 250, 4, [(0, 11)]), (72, 73, 1, 0, 1, 0, []), (73, 76, 20, 0, 80, 4, []), (76, 77, 0, 1, 0, 0, []), (77, 80, 18, 0, 81, 0, []), (80, 81, 0, 0, 0, 0, []), (81, 82, 8, 0, 0, 0, []), (82, 83, 4, 0, 2, 0, []), (83, 86, 7, 1, 4, 0, []), (86, 89, 18, 0, 32, 0, []), (89, 92, 7, 1, 3, 0, []), (92, 95, 18, 0, 17, 0, []), (95, 96, 1, 0, 2, 0, []), (96, 97, 34, 0, 0, 0, [])]
set_option maxRecDepth 100000 in
theorem ok252 : k252.all (chk 252 (qbt 252) (qow 252)) = true := by decide +kernel
/-- ClayBootsModel.caller(II)I -/
def k253 : List En := [(0, 1, 1, 0, 1, 0, []), (1, 2, 0, -1, 0, 0, []), (2, 5, 20, 0, 16, 1, []), (5, 6, 2, 0, 0, 0, []), (6, 9, 24, 0, 0, 11, []), (9, 12, 0, 237, 0, 0, []), (12, 13, 0, 0, 0, 0, []), (13, 14, 27, 0, 0, 0, []), (14, 15, 0, 0, 0, 0, []), (15, 16, 34, 0, 0, 0, []), (16, 17, 1, 0, 1, 0, []), (17, 18, 0, 0, 0, 0, []), (18, 20, 0, 99, 0, 0, []), (20, 23, 38, 0, 151, 3, []), (23, 26, 19, 0, 49, 0, []), (26, 27, 1, 0, 2, 0, []), (27, 28, 0, 1, 0, 0, []), (28, 30, 0, 30, 0, 0, []), (30, 33, 38, 0, 151, 3, []), (33, 36, 19, 0, 49, 0, []), (36, 37, 2, 0, 0, 0, []), (37, 40, 24, 0, 0, 11, []), (40, 43, 0, 237, 0, 0, []), (43, 44, 26, 0, 0, 0, []), (44, 46, 0, 10, 0, 0, []), (46, 49, 20, 0, 51, 1, []), (49, 50, 0, -1, 0, 0, []), (50, 51, 34, 0, 0, 0, []), (51, 52, 2, 0, 0, 0, []), (52, 55, 24, 0, 0, 11, []), (55, 58, 0, 577, 0, 0, []), (58, 59, 0, 2, 0, 0, []), (59, 60, 2, 0, 0, 0, []), (60, 63, 24, 0, 0, 11, []), (63, 66, 0, 237, 0, 0, []), (66, 67, 26, 0, 0, 0, []), (67, 68, 8, 0, 2, 0, []), (68, 69, 8, 0, 0, 0, []), (69, 70, 1, 0, 1, 0, []), (70, 71, 27, 0, 0, 0, []), (71, 72, 2, 0, 0, 0, []), (72, 75, 24, 0, 0, 11, []), (75, 78, 0, 577, 0, 0, []), (78, 79, 0, 2, 0, 0, []), (79, 80, 2, 0, 0, 0, []), (80, 83, 24, 0, 0, 11, []), (83, 86, 0, 237, 0, 0, []), (86, 87, 26, 0, 0, 0, []), (87, 88, 8, 0, 2, 0, []), (88, 89, 8, 0, 0, 0, []), (89, 90, 0, 1, 0, 0, []), (90, 91, 8, 0, 0, 0, []), (91, 92, 1, 0, 2, 0, []), (92, 93, 27, 0, 0, 0, []), (93, 94, 2, 0, 0, 0, []), (94, 97, 24, 0, 0, 11, []), (97, 100, 0, 237, 0, 0, []), (100, 101, 16, 0, 0, 0, []), (101, 102, 26, 0, 0, 0, []), (102, 103, 0, 1, 0, 0, []), (103, 104, 8, 0, 0, 0, []), (104, 105, 27, 0, 0, 0, []), (105, 106, 2, 0, 0, 0, []), (106, 109, 24, 0, 0, 11, []), (109, 112, 0, 237, 0, 0, []), (112, 113, 26, 0, 0, 0, []), (113, 114, 34, 0, 0, 0, [])]
set_option maxRecDepth 100000 in
theorem ok253 : k253.all (chk 253 (qbt 253) (qow 253)) = true := by decide +kernel
/-- ClayBootsModel.scrapes(II)I -/
def k254 : List En := [(0, 1, 0, 0, 0, 0, []), (1, 2, 4, 0, 3, 0, []), (2, 3, 0, 1, 0, 0, []), (3, 5, 4, 0, 4, 0, []), (5, 7, 1, 0, 4, 0, []), (7, 8, 1, 0, 2, 0, []), (8, 11, 20, 0, 40, 3, []), (11, 12, 2, 0, 0, 0, []), (12, 15, 24, 0, 33, 11, []), (15, 17, 1, 0, 4, 0, []), (17, 18, 26, 0, 0, 0, []), (18, 19, 2, 0, 0, 0, []), (19, 22, 24, 0, 33, 11, []), (22, 23, 1, 0, 3, 0, []), (23, 24, 26, 0, 0, 0, []), (24, 27, 20, 0, 32, 3, []), (27, 29, 1, 0, 4, 0, []), (29, 32, 18, 0, 33, 0, []), (32, 33, 1, 0, 3, 0, []), (33, 34, 4, 0, 3, 0, []), (34, 37, 7, 1, 4, 0, []), (37, 40, 18, 0, 5, 0, []), (40, 41, 2, 0, 0, 0, []), (41, 44, 24, 0, 33, 11, []), (44, 45, 1, 0, 3, 0, []), (45, 46, 2, 0, 0, 0, []), (46, 49, 24, 0, 33, 11, []), (49, 50, 1, 0, 3, 0, []), (50, 51, 26, 0, 0, 0, []), (51, 52, 2, 0, 0, 0, []), (52, 55, 24, 0, 0, 11, []), (55, 58, 0, 577, 0, 0, []), (58, 59, 0, 2, 0, 0, []), (59, 60, 1, 0, 1, 0, []), (60, 61, 8, 0, 2, 0, []), (61, 62, 8, 0, 0, 0, []), (62, 63, 26, 0, 0, 0, []), (63, 66, 38, 0, 153, 2, []), (66, 67, 2, 0, 0, 0, []), (67, 70, 24, 0, 0, 11, []), (70, 73, 0, 577, 0, 0, []), (73, 74, 0, 2, 0, 0, []), (74, 75, 1, 0, 1, 0, []), (75, 76, 8, 0, 2, 0, []), (76, 77, 8, 0, 0, 0, []), (77, 78, 0, 1, 0, 0, []), (78, 79, 8, 0, 0, 0, []), (79, 80, 26, 0, 0, 0, []), (80, 81, 8, 0, 0, 0, []), (81, 82, 27, 0, 0, 0, []), (82, 83, 2, 0, 0, 0, []), (83, 86, 24, 0, 33, 11, []), (86, 87, 1, 0, 3, 0, []), (87, 88, 26, 0, 0, 0, []), (88, 89, 34, 0, 0, 0, [])]
set_option maxRecDepth 100000 in
theorem ok254 : k254.all (chk 254 (qbt 254) (qow 254)) = true := by decide +kernel
/-- ClayBootsModel.line(II)I -/
def k255 : List En := [(0, 1, 1, 0, 1, 0, []), (1, 2, 0, 1, 0, 0, []), (2, 3, 0, 4, 0, 0, []), (3, 6, 38, 0, 151, 3, []), (6, 9, 19, 0, 18, 0, []), (9, 10, 1, 0, 2, 0, []), (10, 11, 0, 0, 0, 0, []), (11, 12, 0, 1, 0, 0, []), (12, 15, 38, 0, 151, 3, []), (15, 18, 19, 0, 20, 1, []), (18, 19, 0, -1, 0, 0, []), (19, 20, 34, 0, 0, 0, []), (20, 21, 0, 0, 0, 0, []), (21, 22, 4, 0, 3, 0, []), (22, 23, 1, 0, 3, 0, []), (23, 24, 0, 4, 0, 0, []), (24, 27, 20, 0, 40, 3, []), (27, 28, 2, 0, 0, 0, []), (28, 31, 24, 0, 33, 11, []), (31, 32, 1, 0, 3, 0, []), (32, 33, 0, 0, 0, 0, []), (33, 34, 27, 0, 0, 0, []), (34, 37, 7, 1, 3, 0, []), (37, 40, 18, 0, 22, 0, []), (40, 41, 0, 0, 0, 0, []), (41, 42, 4, 0, 3, 0, []), (42, 43, 0, 0, 0, 0, []), (43, 45, 4, 0, 4, 0, []), (45, 46, 0, 0, 0, 0, []), (46, 48, 4, 0, 5, 0, []), (48, 50, 1, 0, 5, 0, []), (50, 52, 0, 99, 0, 0, []), (52, 55, 20, 0, 146, 4, []), (55, 56, 0, 0, 0, 0, []), (56, 58, 4, 0, 6, 0, []), (58, 60, 1, 0, 6, 0, []), (60, 61, 2, 0, 0, 0, []), (61, 64, 24, 0, 0, 11, []), (64, 67, 0, 237, 0, 0, []), (67, 68, 26, 0, 0, 0, []), (68, 71, 20, 0, 140, 3, []), (71, 72, 2, 0, 0, 0, []), (72, 75, 24, 0, 0, 11, []), (75, 78, 0, 577, 0, 0, []), (78, 79, 0, 2, 0, 0, []), (79, 81, 1, 0, 6, 0, []), (81, 82, 8, 0, 2, 0, []), (82, 83, 8, 0, 0, 0, []), (83, 84, 26, 0, 0, 0, []), (84, 86, 1, 0, 5, 0, []), (86, 89, 20, 0, 92, 0, []), (89, 92, 18, 0, 134, 0, []), (92, 93, 2, 0, 0, 0, []), (93, 95, 1, 0, 6, 0, []), (95, 96, 1, 0, 1, 0, []), (96, 99, 44, 0, 254, 3, [(0, 11)]), (99, 101, 4, 0, 7, 0, []), (101, 102, 1, 0, 3, 0, []), (102, 104, 1, 0, 7, 0, []), (104, 106, 1, 0, 5, 0, []), (106, 107, 8, 0, 1, 0, []), (107, 108, 2, 0, 0, 0, []), (108, 111, 24, 0, 0, 11, []), (111, 114, 0, 577, 0, 0, []), (114, 115, 0, 2, 0, 0, []), (115, 117, 1, 0, 6, 0, []), (117, 118, 8, 0, 2, 0, []), (118, 119, 8, 0, 0, 0, []), (119, 120, 0, 1, 0, 0, []), (120, 121, 8, 0, 0, 0, []), (121, 122, 26, 0, 0, 0, []), (122, 123, 8, 0, 1, 0, []), (123, 124, 8, 0, 0, 0, []), (124, 125, 4, 0, 3, 0, []), (125, 127, 1, 0, 4, 0, []), (127, 129, 1, 0, 7, 0, []), (129, 132, 38, 0, 153, 2, []), (132, 134, 4, 0, 4, 0, []), (134, 137, 7, 1, 6, 0, []), (137, 140, 18, 0, 58, 0, []), (140, 143, 7, 1, 5, 0, []), (143, 146, 18, 0, 48, 0, []), (146, 147, 1, 0, 2, 0, []), (147, 150, 19, 0, 154, 1, []), (150, 151, 1, 0, 3, 0, []), (151, 154, 18, 0, 156, 0, []), (154, 156, 1, 0, 4, 0, []), (156, 157, 34, 0, 0, 0, [])]
set_option maxRecDepth 100000 in
theorem ok255 : k255.all (chk 255 (qbt 255) (qow 255)) = true := by decide +kernel
/-- ClayBootsModel.worth(I)I -/
def k256 : List En := [(0, 1, 1, 0, 1, 0, []), (1, 2, 0, -1, 0, 0, []), (2, 5, 20, 0, 16, 1, []), (5, 6, 2, 0, 0, 0, []), (6, 9, 24, 0, 0, 11, []), (9, 12, 0, 238, 0, 0, []), (12, 13, 0, 0, 0, 0, []), (13, 14, 27, 0, 0, 0, []), (14, 15, 0, 0, 0, 0, []), (15, 16, 34, 0, 0, 0, []), (16, 17, 1, 0, 1, 0, []), (17, 18, 0, 0, 0, 0, []), (18, 20, 0, 99, 0, 0, []), (20, 23, 38, 0, 151, 3, []), (23, 26, 19, 0, 39, 0, []), (26, 27, 2, 0, 0, 0, []), (27, 30, 24, 0, 0, 11, []), (30, 33, 0, 238, 0, 0, []), (33, 34, 26, 0, 0, 0, []), (34, 36, 0, 20, 0, 0, []), (36, 39, 20, 0, 41, 1, []), (39, 40, 0, -1, 0, 0, []), (40, 41, 34, 0, 0, 0, []), (41, 42, 2, 0, 0, 0, []), (42, 45, 24, 0, 0, 11, []), (45, 48, 0, 597, 0, 0, []), (48, 49, 2, 0, 0, 0, []), (49, 52, 24, 0, 0, 11, []), (52, 55, 0, 238, 0, 0, []), (55, 56, 26, 0, 0, 0, []), (56, 57, 8, 0, 0, 0, []), (57, 58, 1, 0, 1, 0, []), (58, 59, 27, 0, 0, 0, []), (59, 60, 2, 0, 0, 0, []), (60, 63, 24, 0, 0, 11, []), (63, 66, 0, 238, 0, 0, []), (66, 67, 16, 0, 0, 0, []), (67, 68, 26, 0, 0, 0, []), (68, 69, 0, 1, 0, 0, []), (69, 70, 8, 0, 0, 0, []), (70, 71, 27, 0, 0, 0, []), (71, 72, 2, 0, 0, 0, []), (72, 75, 24, 0, 0, 11, []), (75, 78, 0, 238, 0, 0, []), (78, 79, 26, 0, 0, 0, []), (79, 80, 34, 0, 0, 0, [])]
set_option maxRecDepth 100000 in
theorem ok256 : k256.all (chk 256 (qbt 256) (qow 256)) = true := by decide +kernel
/-- ClayBootsModel.laysFair(I)V -/
def k257 : List En := [(0, 2, 0, 30, 0, 0, []), (2, 3, 4, 0, 2, 0, []), (3, 4, 1, 0, 2, 0, []), (4, 5, 2, 0, 0, 0, []), (5, 8, 24, 0, 0, 11, []), (8, 11, 0, 238, 0, 0, []), (11, 12, 26, 0, 0, 0, []), (12, 15, 20, 0, 28, 2, []), (15, 16, 2, 0, 0, 0, []), (16, 19, 24, 0, 34, 11, []), (19, 20, 1, 0, 2, 0, []), (20, 21, 0, 0, 0, 0, []), (21, 22, 27, 0, 0, 0, []), (22, 25, 7, -1, 2, 0, []), (25, 28, 18, 0, 3, 0, []), (28, 29, 2, 0, 0, 0, []), (29, 32, 24, 0, 0, 11, []), (32, 35, 0, 238, 0, 0, []), (35, 36, 26, 0, 0, 0, []), (36, 37, 0, 1, 0, 0, []), (37, 38, 8, 0, 1, 0, []), (38, 39, 4, 0, 2, 0, []), (39, 40, 1, 0, 2, 0, []), (40, 43, 19, 0, 87, 2, []), (43, 44, 2, 0, 0, 0, []), (44, 47, 24, 0, 34, 11, []), (47, 48, 1, 0, 2, 0, []), (48, 49, 2, 0, 0, 0, []), (49, 52, 24, 0, 34, 11, []), (52, 53, 1, 0, 2, 0, []), (53, 54, 0, 1, 0, 0, []), (54, 55, 8, 0, 0, 0, []), (55, 56, 26, 0, 0, 0, []), (56, 57, 2, 0, 0, 0, []), (57, 60, 24, 0, 0, 11, []), (60, 63, 0, 597, 0, 0, []), (63, 64, 1, 0, 2, 0, []), (64, 65, 8, 0, 0, 0, []), (65, 66, 26, 0, 0, 0, []), (66, 67, 2, 0, 0, 0, []), (67, 70, 24, 0, 34, 11, []), (70, 71, 1, 0, 2, 0, []), (71, 72, 1, 0, 1, 0, []), (72, 73, 8, 0, 0, 0, []), (73, 74, 0, 1, 0, 0, []), (74, 75, 8, 0, 0, 0, []), (75, 76, 26, 0, 0, 0, []), (76, 77, 8, 0, 0, 0, []), (77, 80, 38, 0, 153, 2, []), (80, 81, 27, 0, 0, 0, []), (81, 84, 7, -1, 2, 0, []), (84, 87, 18, 0, 39, 0, []), (87, 88, 37, 0, 0, 0, [])]
set_option maxRecDepth 100000 in
theorem ok257 : k257.all (chk 257 (qbt 257) (qow 257)) = true := by decide +kernel
/-- ClayBootsModel.fair(II)I -/
def k258 : List En := [(0, 1, 1, 0, 1, 0, []), (1, 2, 0, 0, 0, 0, []), (2, 4, 0, 9, 0, 0, []), (4, 7, 38, 0, 151, 3, []), (7, 10, 19, 0, 35, 0, []), (10, 11, 1, 0, 2, 0, []), (11, 12, 0, 0, 0, 0, []), (12, 13, 0, 1, 0, 0, []), (13, 16, 38, 0, 151, 3, []), (16, 19, 19, 0, 35, 0, []), (19, 20, 1, 0, 2, 0, []), (20, 21, 0, 1, 0, 0, []), (21, 24, 20, 0, 37, 1, []), (24, 25, 2, 0, 0, 0, []), (25, 28, 24, 0, 0, 11, []), (28, 31, 0, 238, 0, 0, []), (31, 32, 26, 0, 0, 0, []), (32, 35, 19, 0, 37, 1, []), (35, 36, 0, -1, 0, 0, []), (36, 37, 34, 0, 0, 0, []), (37, 38, 2, 0, 0, 0, []), (38, 39, 1, 0, 1, 0, []), (39, 42, 44, 0, 257, 2, [(0, 11)]), (42, 43, 1, 0, 2, 0, []), (43, 46, 19, 0, 53, 1, []), (46, 47, 2, 0, 0, 0, []), (47, 50, 24, 0, 34, 11, []), (50, 51, 0, 0, 0, 0, []), (51, 52, 26, 0, 0, 0, []), (52, 53, 34, 0, 0, 0, []), (53, 54, 0, 0, 0, 0, []), (54, 55, 4, 0, 3, 0, []), (55, 56, 2, 0, 0, 0, []), (56, 59, 24, 0, 0, 11, []), (59, 62, 0, 597, 0, 0, []), (62, 63, 1, 0, 3, 0, []), (63, 64, 8, 0, 0, 0, []), (64, 65, 26, 0, 0, 0, []), (65, 66, 2, 0, 0, 0, []), (66, 69, 24, 0, 34, 11, []), (69, 70, 1, 0, 3, 0, []), (70, 71, 1, 0, 1, 0, []), (71, 72, 8, 0, 0, 0, []), (72, 73, 0, 1, 0, 0, []), (73, 74, 8, 0, 0, 0, []), (74, 75, 26, 0, 0, 0, []), (75, 76, 8, 0, 0, 0, []), (76, 77, 2, 0, 0, 0, []), (77, 80, 24, 0, 34, 11, []), (80, 81, 0, 0, 0, 0, []), (81, 82, 26, 0, 0, 0, []), (82, 85, 20, 0, 91, 0, []), (85, 88, 7, 1, 3, 0, []), (88, 91, 18, 0, 55, 0, []), (91, 92, 1, 0, 3, 0, []), (92, 93, 34, 0, 0, 0, [])]
set_option maxRecDepth 100000 in
theorem ok258 : k258.all (chk 258 (qbt 258) (qow 258)) = true := by decide +kernel
/-- ClayBootsModel.offer(II)I -/
def k259 : List En := [(0, 1, 1, 0, 1, 0, []), (1, 2, 0, -1, 0, 0, []), (2, 5, 20, 0, 16, 1, []), (5, 6, 2, 0, 0, 0, []), (6, 9, 24, 0, 0, 11, []), (9, 12, 0, 239, 0, 0, []), (12, 13, 0, 0, 0, 0, []), (13, 14, 27, 0, 0, 0, []), (14, 15, 0, 0, 0, 0, []), (15, 16, 34, 0, 0, 0, []), (16, 17, 1, 0, 1, 0, []), (17, 18, 0, 0, 0, 0, []), (18, 19, 0, 3, 0, 0, []), (19, 22, 38, 0, 151, 3, []), (22, 25, 19, 0, 48, 0, []), (25, 26, 1, 0, 2, 0, []), (26, 27, 0, 0, 0, 0, []), (27, 29, 0, 99, 0, 0, []), (29, 32, 38, 0, 151, 3, []), (32, 35, 19, 0, 48, 0, []), (35, 36, 2, 0, 0, 0, []), (36, 39, 24, 0, 0, 11, []), (39, 42, 0, 239, 0, 0, []), (42, 43, 26, 0, 0, 0, []), (43, 45, 0, 8, 0, 0, []), (45, 48, 20, 0, 50, 1, []), (48, 49, 0, -1, 0, 0, []), (49, 50, 34, 0, 0, 0, []), (50, 51, 2, 0, 0, 0, []), (51, 54, 24, 0, 0, 11, []), (54, 57, 0, 617, 0, 0, []), (57, 58, 0, 2, 0, 0, []), (58, 59, 2, 0, 0, 0, []), (59, 62, 24, 0, 0, 11, []), (62, 65, 0, 239, 0, 0, []), (65, 66, 26, 0, 0, 0, []), (66, 67, 8, 0, 2, 0, []), (67, 68, 8, 0, 0, 0, []), (68, 69, 1, 0, 1, 0, []), (69, 70, 27, 0, 0, 0, []), (70, 71, 2, 0, 0, 0, []), (71, 74, 24, 0, 0, 11, []), (74, 77, 0, 617, 0, 0, []), (77, 78, 0, 2, 0, 0, []), (78, 79, 2, 0, 0, 0, []), (79, 82, 24, 0, 0, 11, []), (82, 85, 0, 239, 0, 0, []), (85, 86, 26, 0, 0, 0, []), (86, 87, 8, 0, 2, 0, []), (87, 88, 8, 0, 0, 0, []), (88, 89, 0, 1, 0, 0, []), (89, 90, 8, 0, 0, 0, []), (90, 91, 1, 0, 2, 0, []), (91, 92, 27, 0, 0, 0, []), (92, 93, 2, 0, 0, 0, []), (93, 96, 24, 0, 0, 11, []), (96, 99, 0, 239, 0, 0, []), (99, 100, 16, 0, 0, 0, []), (100, 101, 26, 0, 0, 0, []), (101, 102, 0, 1, 0, 0, []), (102, 103, 8, 0, 0, 0, []), (103, 104, 27, 0, 0, 0, []), (104, 105, 2, 0, 0, 0, []), (105, 108, 24, 0, 0, 11, []), (108, 111, 0, 239, 0, 0, []), (111, 112, 26, 0, 0, 0, []), (112, 113, 34, 0, 0, 0, [])]
set_option maxRecDepth 100000 in
theorem ok259 : k259.all (chk 259 (qbt 259) (qow 259)) = true := by decide +kernel
/-- ClayBootsModel.greatestOf(I)I -/
def k260 : List En := [(0, 1, 0, -1, 0, 0, []), (1, 2, 4, 0, 2, 0, []), (2, 3, 0, 0, 0, 0, []), (3, 4, 4, 0, 3, 0, []), (4, 5, 1, 0, 3, 0, []), (5, 6, 2, 0, 0, 0, []), (6, 9, 24, 0, 0, 11, []), (9, 12, 0, 239, 0, 0, []), (12, 13, 26, 0, 0, 0, []), (13, 16, 20, 0, 57, 3, []), (16, 17, 2, 0, 0, 0, []), (17, 20, 24, 0, 0, 11, []), (20, 23, 0, 617, 0, 0, []), (23, 24, 0, 2, 0, 0, []), (24, 25, 1, 0, 3, 0, []), (25, 26, 8, 0, 2, 0, []), (26, 27, 8, 0, 0, 0, []), (27, 28, 26, 0, 0, 0, []), (28, 29, 1, 0, 1, 0, []), (29, 32, 20, 0, 51, 1, []), (32, 33, 1, 0, 2, 0, []), (33, 34, 2, 0, 0, 0, []), (34, 37, 24, 0, 0, 11, []), (37, 40, 0, 617, 0, 0, []), (40, 41, 0, 2, 0, 0, []), (41, 42, 1, 0, 3, 0, []), (42, 43, 8, 0, 2, 0, []), (43, 44, 8, 0, 0, 0, []), (44, 45, 0, 1, 0, 0, []), (45, 46, 8, 0, 0, 0, []), (46, 47, 26, 0, 0, 0, []), (47, 50, 38, 0, 153, 2, []), (50, 51, 4, 0, 2, 0, []), (51, 54, 7, 1, 3, 0, []), (54, 57, 18, 0, 4, 0, []), (57, 58, 1, 0, 2, 0, []), (58, 59, 34, 0, 0, 0, [])]
set_option maxRecDepth 100000 in
theorem ok260 : k260.all (chk 260 (qbt 260) (qow 260)) = true := by decide +kernel
/-- ClayBootsModel.widow(I)I -/
def k261 : List En := [(0, 1, 1, 0, 1, 0, []), (1, 2, 0, 0, 0, 0, []), (2, 3, 0, 1, 0, 0, []), (3, 6, 38, 0, 151, 3, []), (6, 9, 19, 0, 20, 0, []), (9, 10, 2, 0, 0, 0, []), (10, 13, 24, 0, 0, 11, []), (13, 16, 0, 239, 0, 0, []), (16, 17, 26, 0, 0, 0, []), (17, 20, 19, 0, 22, 1, []), (20, 21, 0, -1, 0, 0, []), (21, 22, 34, 0, 0, 0, []), (22, 23, 0, 0, 0, 0, []), (23, 24, 4, 0, 2, 0, []), (24, 25, 0, 1, 0, 0, []), (25, 26, 4, 0, 3, 0, []), (26, 27, 1, 0, 3, 0, []), (27, 28, 0, 4, 0, 0, []), (28, 31, 20, 0, 52, 3, []), (31, 32, 2, 0, 0, 0, []), (32, 33, 1, 0, 3, 0, []), (33, 36, 44, 0, 260, 2, [(0, 11)]), (36, 37, 2, 0, 0, 0, []), (37, 38, 1, 0, 2, 0, []), (38, 41, 44, 0, 260, 2, [(0, 11)]), (41, 44, 20, 0, 46, 5, []), (44, 45, 1, 0, 3, 0, []), (45, 46, 4, 0, 2, 0, []), (46, 49, 7, 1, 3, 0, []), (49, 52, 18, 0, 26, 0, []), (52, 53, 1, 0, 1, 0, []), (53, 56, 19, 0, 58, 1, []), (56, 57, 1, 0, 2, 0, []), (57, 58, 34, 0, 0, 0, []), (58, 59, 0, 0, 0, 0, []), (59, 60, 4, 0, 3, 0, []), (60, 61, 0, 0, 0, 0, []), (61, 63, 4, 0, 4, 0, []), (63, 65, 1, 0, 4, 0, []), (65, 66, 0, 4, 0, 0, []), (66, 69, 20, 0, 92, 3, []), (69, 71, 1, 0, 4, 0, []), (71, 72, 1, 0, 2, 0, []), (72, 75, 20, 0, 86, 0, []), (75, 76, 1, 0, 3, 0, []), (76, 77, 2, 0, 0, 0, []), (77, 79, 1, 0, 4, 0, []), (79, 82, 44, 0, 260, 2, [(0, 11)]), (82, 85, 38, 0, 153, 2, []), (85, 86, 4, 0, 3, 0, []), (86, 89, 7, 1, 4, 0, []), (89, 92, 18, 0, 63, 0, []), (92, 93, 1, 0, 3, 0, []), (93, 94, 34, 0, 0, 0, [])]
set_option maxRecDepth 100000 in
theorem ok261 : k261.all (chk 261 (qbt 261) (qow 261)) = true := by decide +kernel
/-- ClayBootsModel.long0(II)I -/
def k262 : List En := [(0, 1, 2, 0, 0, 0, []), (1, 4, 24, 0, 0, 11, []), (4, 7, 0, 479, 0, 0, []), (7, 9, 0, 8, 0, 0, []), (9, 10, 1, 0, 1, 0, []), (10, 11, 8, 0, 2, 0, []), (11, 12, 8, 0, 0, 0, []), (12, 13, 1, 0, 2, 0, []), (13, 14, 8, 0, 0, 0, []), (14, 15, 26, 0, 0, 0, []), (15, 16, 0, -1, 0, 0, []), (16, 19, 20, 0, 25, 1, []), (19, 22, 0, 100000000, 0, 0, []), (22, 25, 18, 0, 40, 0, []), (25, 26, 2, 0, 0, 0, []), (26, 29, 24, 0, 0, 11, []), (29, 32, 0, 479, 0, 0, []), (32, 34, 0, 8, 0, 0, []), (34, 35, 1, 0, 1, 0, []), (35, 36, 8, 0, 2, 0, []), (36, 37, 8, 0, 0, 0, []), (37, 38, 1, 0, 2, 0, []), (38, 39, 8, 0, 0, 0, []), (39, 40, 26, 0, 0, 0, []), (40, 41, 34, 0, 0, 0, [])]
set_option maxRecDepth 100000 in
theorem ok262 : k262.all (chk 262 (qbt 262) (qow 262)) = true := by decide +kernel
/-- ClayBootsModel.spans()I -/
def k263 : List En := [(0, 1, 0, 1, 0, 0, []), (1, 2, 4, 0, 1, 0, []), (2, 3, 0, 0, 0, 0, []), (3, 4, 4, 0, 2, 0, []), (4, 5, 0, 1, 0, 0, []), (5, 6, 4, 0, 3, 0, []), (6, 7, 1, 0, 3, 0, []), (7, 8, 2, 0, 0, 0, []), (8, 11, 24, 0, 0, 11, []), (11, 14, 0, 230, 0, 0, []), (14, 15, 26, 0, 0, 0, []), (15, 18, 20, 0, 145, 3, []), (18, 21, 0, 100000000, 0, 0, []), (21, 23, 4, 0, 4, 0, []), (23, 24, 0, -1, 0, 0, []), (24, 26, 4, 0, 5, 0, []), (26, 27, 0, 0, 0, 0, []), (27, 29, 4, 0, 6, 0, []), (29, 31, 1, 0, 6, 0, []), (31, 32, 2, 0, 0, 0, []), (32, 35, 24, 0, 0, 11, []), (35, 38, 0, 230, 0, 0, []), (38, 39, 26, 0, 0, 0, []), (39, 42, 20, 0, 119, 3, []), (42, 43, 0, 0, 0, 0, []), (43, 45, 4, 0, 7, 0, []), (45, 47, 1, 0, 7, 0, []), (47, 48, 2, 0, 0, 0, []), (48, 51, 24, 0, 0, 11, []), (51, 54, 0, 230, 0, 0, []), (54, 55, 26, 0, 0, 0, []), (55, 58, 20, 0, 113, 3, []), (58, 59, 1, 0, 1, 0, []), (59, 61, 1, 0, 6, 0, []), (61, 62, 8, 0, 7, 0, []), (62, 63, 0, 1, 0, 0, []), (63, 64, 8, 0, 3, 0, []), (64, 67, 19, 0, 107, 0, []), (67, 68, 1, 0, 1, 0, []), (68, 70, 1, 0, 7, 0, []), (70, 71, 8, 0, 7, 0, []), (71, 72, 0, 1, 0, 0, []), (72, 73, 8, 0, 3, 0, []), (73, 74, 0, 1, 0, 0, []), (74, 77, 20, 0, 107, 0, []), (77, 78, 2, 0, 0, 0, []), (78, 80, 1, 0, 6, 0, []), (80, 82, 1, 0, 7, 0, []), (82, 85, 44, 0, 262, 3, [(0, 11)]), (85, 87, 1, 0, 4, 0, []), (87, 90, 20, 0, 93, 2, []), (90, 93, 18, 0, 107, 0, []), (93, 94, 2, 0, 0, 0, []), (94, 96, 1, 0, 6, 0, []), (96, 98, 1, 0, 7, 0, []), (98, 101, 44, 0, 262, 3, [(0, 11)]), (101, 103, 4, 0, 4, 0, []), (103, 105, 1, 0, 7, 0, []), (105, 107, 4, 0, 5, 0, []), (107, 110, 7, 1, 7, 0, []), (110, 113, 18, 0, 45, 0, []), (113, 116, 7, 1, 6, 0, []), (116, 119, 18, 0, 29, 0, []), (119, 121, 1, 0, 5, 0, []), (121, 122, 0, -1, 0, 0, []), (122, 125, 20, 0, 127, 1, []), (125, 126, 0, -1, 0, 0, []), (126, 127, 34, 0, 0, 0, []), (127, 128, 1, 0, 1, 0, []), (128, 129, 0, 1, 0, 0, []), (129, 131, 1, 0, 5, 0, []), (131, 132, 8, 0, 6, 0, []), (132, 133, 8, 0, 4, 0, []), (133, 134, 4, 0, 1, 0, []), (134, 135, 1, 0, 2, 0, []), (135, 137, 1, 0, 4, 0, []), (137, 138, 8, 0, 0, 0, []), (138, 139, 4, 0, 2, 0, []), (139, 142, 7, 1, 3, 0, []), (142, 145, 18, 0, 6, 0, []), (145, 146, 1, 0, 2, 0, []), (146, 147, 34, 0, 0, 0, [])]
set_option maxRecDepth 100000 in
theorem ok263 : k263.all (chk 263 (qbt 263) (qow 263)) = true := by decide +kernel
/-- ClayBootsModel.shortest(II)I -/
def k264 : List En := [(0, 1, 0, 0, 0, 0, []), (1, 2, 4, 0, 3, 0, []), (2, 3, 1, 0, 3, 0, []), (3, 5, 0, 8, 0, 0, []), (5, 8, 20, 0, 32, 3, []), (8, 9, 2, 0, 0, 0, []), (9, 12, 24, 0, 35, 11, []), (12, 13, 1, 0, 3, 0, []), (13, 14, 1, 0, 3, 0, []), (14, 15, 1, 0, 1, 0, []), (15, 18, 20, 0, 22, 1, []), (18, 19, 0, 0, 0, 0, []), (19, 22, 18, 0, 25, 0, []), (22, 25, 0, 100000000, 0, 0, []), (25, 26, 27, 0, 0, 0, []), (26, 29, 7, 1, 3, 0, []), (29, 32, 18, 0, 2, 0, []), (32, 33, 0, 0, 0, 0, []), (33, 34, 4, 0, 3, 0, []), (34, 35, 1, 0, 3, 0, []), (35, 37, 0, 8, 0, 0, []), (37, 40, 20, 0, 123, 3, []), (40, 41, 0, 0, 0, 0, []), (41, 43, 4, 0, 4, 0, []), (43, 45, 1, 0, 4, 0, []), (45, 46, 2, 0, 0, 0, []), (46, 49, 24, 0, 0, 11, []), (49, 52, 0, 230, 0, 0, []), (52, 53, 26, 0, 0, 0, []), (53, 56, 20, 0, 117, 3, []), (56, 57, 0, 0, 0, 0, []), (57, 59, 4, 0, 5, 0, []), (59, 61, 1, 0, 5, 0, []), (61, 62, 2, 0, 0, 0, []), (62, 65, 24, 0, 0, 11, []), (65, 68, 0, 230, 0, 0, []), (68, 69, 26, 0, 0, 0, []), (69, 72, 20, 0, 111, 3, []), (72, 73, 2, 0, 0, 0, []), (73, 76, 24, 0, 35, 11, []), (76, 78, 1, 0, 5, 0, []), (78, 79, 2, 0, 0, 0, []), (79, 82, 24, 0, 35, 11, []), (82, 84, 1, 0, 5, 0, []), (84, 85, 26, 0, 0, 0, []), (85, 86, 2, 0, 0, 0, []), (86, 89, 24, 0, 35, 11, []), (89, 91, 1, 0, 4, 0, []), (91, 92, 26, 0, 0, 0, []), (92, 93, 2, 0, 0, 0, []), (93, 95, 1, 0, 4, 0, []), (95, 97, 1, 0, 5, 0, []), (97, 100, 44, 0, 262, 3, [(0, 11)]), (100, 101, 8, 0, 0, 0, []), (101, 104, 38, 0, 152, 2, []), (104, 105, 27, 0, 0, 0, []), (105, 108, 7, 1, 5, 0, []), (108, 111, 18, 0, 59, 0, []), (111, 114, 7, 1, 4, 0, []), (114, 117, 18, 0, 43, 0, []), (117, 120, 7, 1, 3, 0, []), (120, 123, 18, 0, 34, 0, []), (123, 124, 2, 0, 0, 0, []), (124, 127, 24, 0, 35, 11, []), (127, 128, 1, 0, 2, 0, []), (128, 129, 26, 0, 0, 0, []), (129, 132, 0, 100000000, 0, 0, []), (132, 135, 20, 0, 139, 2, []), (135, 136, 0, -1, 0, 0, []), (136, 139, 18, 0, 145, 0, []), (139, 140, 2, 0, 0, 0, []), (140, 143, 24, 0, 35, 11, []), (143, 144, 1, 0, 2, 0, []), (144, 145, 26, 0, 0, 0, []), (145, 146, 34, 0, 0, 0, [])]
set_option maxRecDepth 100000 in
theorem ok264 : k264.all (chk 264 (qbt 264) (qow 264)) = true := by decide +kernel
/-- ClayBootsModel.span(II)I -/
def k265 : List En := [(0, 1, 1, 0, 1, 0, []), (1, 2, 0, -1, 0, 0, []), (2, 5, 20, 0, 10, 1, []), (5, 6, 2, 0, 0, 0, []), (6, 9, 44, 0, 263, 1, [(0, 11)]), (9, 10, 34, 0, 0, 0, []), (10, 11, 2, 0, 0, 0, []), (11, 12, 1, 0, 1, 0, []), (12, 15, 44, 0, 156, 2, [(0, 11)]), (15, 18, 19, 0, 35, 0, []), (18, 19, 2, 0, 0, 0, []), (19, 20, 1, 0, 2, 0, []), (20, 23, 44, 0, 156, 2, [(0, 11)]), (23, 26, 19, 0, 35, 0, []), (26, 27, 2, 0, 0, 0, []), (27, 28, 1, 0, 1, 0, []), (28, 29, 1, 0, 2, 0, []), (29, 32, 44, 0, 264, 3, [(0, 11)]), (32, 35, 18, 0, 36, 0, []), (35, 36, 0, -1, 0, 0, []), (36, 37, 34, 0, 0, 0, [])]
set_option maxRecDepth 100000 in
theorem ok265 : k265.all (chk 265 (qbt 265) (qow 265)) = true := by decide +kernel
/-- ClayBootsModel.later(I)I -/
def k266 : List En := [(0, 1, 1, 0, 1, 0, []), (1, 2, 0, 0, 0, 0, []), (2, 5, 0, 2000000000, 0, 0, []), (5, 8, 38, 0, 151, 3, []), (8, 11, 19, 0, 13, 1, []), (11, 12, 0, 0, 0, 0, []), (12, 13, 34, 0, 0, 0, []), (13, 14, 2, 0, 0, 0, []), (14, 17, 24, 0, 0, 11, []), (17, 18, 0, 4, 0, 0, []), (18, 19, 26, 0, 0, 0, []), (19, 20, 4, 0, 2, 0, []), (20, 22, 0, 1664525, 0, 0, []), (22, 23, 4, 0, 3, 0, []), (23, 25, 0, 1013904223, 0, 0, []), (25, 27, 4, 0, 4, 0, []), (27, 28, 1, 0, 1, 0, []), (28, 30, 4, 0, 5, 0, []), (30, 32, 1, 0, 5, 0, []), (32, 35, 19, 0, 72, 5, []), (35, 37, 1, 0, 5, 0, []), (37, 38, 0, 2, 0, 0, []), (38, 39, 10, 0, 0, 0, []), (39, 40, 0, 1, 0, 0, []), (40, 43, 20, 0, 50, 1, []), (43, 44, 1, 0, 2, 0, []), (44, 45, 1, 0, 3, 0, []), (45, 46, 8, 0, 2, 0, []), (46, 48, 1, 0, 4, 0, []), (48, 49, 8, 0, 0, 0, []), (49, 50, 4, 0, 2, 0, []), (50, 52, 1, 0, 4, 0, []), (52, 53, 1, 0, 3, 0, []), (53, 54, 8, 0, 2, 0, []), (54, 56, 1, 0, 4, 0, []), (56, 57, 8, 0, 0, 0, []), (57, 59, 4, 0, 4, 0, []), (59, 60, 1, 0, 3, 0, []), (60, 61, 1, 0, 3, 0, []), (61, 62, 8, 0, 2, 0, []), (62, 63, 4, 0, 3, 0, []), (63, 65, 1, 0, 5, 0, []), (65, 66, 0, 2, 0, 0, []), (66, 67, 9, 0, 0, 0, []), (67, 69, 4, 0, 5, 0, []), (69, 72, 18, 0, 30, 0, []), (72, 73, 1, 0, 2, 0, []), (73, 74, 34, 0, 0, 0, [])]
set_option maxRecDepth 100000 in
theorem ok266 : k266.all (chk 266 (qbt 266) (qow 266)) = true := by decide +kernel
/-- ClayBootsModel.first(II)I -/
def k267 : List En := [(0, 1, 1, 0, 1, 0, []), (1, 2, 0, 2, 0, 0, []), (2, 5, 0, 1000, 0, 0, []), (5, 8, 38, 0, 151, 3, []), (8, 11, 19, 0, 20, 0, []), (11, 12, 1, 0, 2, 0, []), (12, 13, 0, 1, 0, 0, []), (13, 14, 1, 0, 1, 0, []), (14, 17, 38, 0, 151, 3, []), (17, 20, 19, 0, 22, 1, []), (20, 21, 0, -1, 0, 0, []), (21, 22, 34, 0, 0, 0, []), (22, 23, 2, 0, 0, 0, []), (23, 26, 24, 0, 0, 11, []), (26, 27, 0, 4, 0, 0, []), (27, 28, 26, 0, 0, 0, []), (28, 29, 4, 0, 3, 0, []), (29, 30, 0, 0, 0, 0, []), (30, 32, 4, 0, 4, 0, []), (32, 33, 0, 0, 0, 0, []), (33, 35, 4, 0, 5, 0, []), (35, 37, 1, 0, 4, 0, []), (37, 40, 0, 999, 0, 0, []), (40, 43, 20, 0, 70, 3, []), (43, 45, 1, 0, 5, 0, []), (45, 48, 19, 0, 70, 1, []), (48, 51, 7, 1, 4, 0, []), (51, 52, 2, 0, 0, 0, []), (52, 53, 1, 0, 1, 0, []), (53, 56, 44, 0, 161, 2, [(0, 11)]), (56, 57, 1, 0, 2, 0, []), (57, 60, 20, 0, 64, 3, []), (60, 61, 0, 1, 0, 0, []), (61, 64, 18, 0, 65, 0, []), (64, 65, 0, 0, 0, 0, []), (65, 67, 4, 0, 5, 0, []), (67, 70, 18, 0, 35, 0, []), (70, 71, 2, 0, 0, 0, []), (71, 74, 24, 0, 0, 11, []), (74, 75, 0, 4, 0, 0, []), (75, 76, 1, 0, 3, 0, []), (76, 77, 27, 0, 0, 0, []), (77, 79, 1, 0, 5, 0, []), (79, 82, 19, 0, 87, 0, []), (82, 84, 1, 0, 4, 0, []), (84, 87, 18, 0, 88, 0, []), (87, 88, 0, -1, 0, 0, []), (88, 89, 34, 0, 0, 0, [])]
set_option maxRecDepth 100000 in
theorem ok267 : k267.all (chk 267 (qbt 267) (qow 267)) = true := by decide +kernel
/-- ClayBootsModel.worn(I)I -/
def k268 : List En := [(0, 1, 1, 0, 1, 0, []), (1, 2, 0, -1, 0, 0, []), (2, 5, 20, 0, 16, 1, []), (5, 6, 2, 0, 0, 0, []), (6, 9, 24, 0, 0, 11, []), (9, 12, 0, 240, 0, 0, []), (12, 13, 0, 0, 0, 0, []), (13, 14, 27, 0, 0, 0, []), (14, 15, 0, 0, 0, 0, []), (15, 16, 34, 0, 0, 0, []), (16, 17, 1, 0, 1, 0, []), (17, 18, 0, 0, 0, 0, []), (18, 20, 0, 99, 0, 0, []), (20, 23, 38, 0, 151, 3, []), (23, 26, 19, 0, 39, 0, []), (26, 27, 2, 0, 0, 0, []), (27, 30, 24, 0, 0, 11, []), (30, 33, 0, 240, 0, 0, []), (33, 34, 26, 0, 0, 0, []), (34, 36, 0, 12, 0, 0, []), (36, 39, 20, 0, 41, 1, []), (39, 40, 0, -1, 0, 0, []), (40, 41, 34, 0, 0, 0, []), (41, 42, 2, 0, 0, 0, []), (42, 45, 24, 0, 0, 11, []), (45, 48, 0, 633, 0, 0, []), (48, 49, 2, 0, 0, 0, []), (49, 52, 24, 0, 0, 11, []), (52, 55, 0, 240, 0, 0, []), (55, 56, 26, 0, 0, 0, []), (56, 57, 8, 0, 0, 0, []), (57, 58, 1, 0, 1, 0, []), (58, 59, 27, 0, 0, 0, []), (59, 60, 2, 0, 0, 0, []), (60, 63, 24, 0, 0, 11, []), (63, 66, 0, 240, 0, 0, []), (66, 67, 16, 0, 0, 0, []), (67, 68, 26, 0, 0, 0, []), (68, 69, 0, 1, 0, 0, []), (69, 70, 8, 0, 0, 0, []), (70, 71, 27, 0, 0, 0, []), (71, 72, 2, 0, 0, 0, []), (72, 75, 24, 0, 0, 11, []), (75, 78, 0, 240, 0, 0, []), (78, 79, 26, 0, 0, 0, []), (79, 80, 34, 0, 0, 0, [])]
set_option maxRecDepth 100000 in
theorem ok268 : k268.all (chk 268 (qbt 268) (qow 268)) = true := by decide +kernel
/-- ClayBootsModel.laysRows()V -/
def k269 : List En := [(0, 1, 0, 0, 0, 0, []), (1, 2, 4, 0, 1, 0, []), (2, 3, 1, 0, 1, 0, []), (3, 4, 2, 0, 0, 0, []), (4, 7, 24, 0, 0, 11, []), (7, 10, 0, 240, 0, 0, []), (10, 11, 26, 0, 0, 0, []), (11, 14, 20, 0, 149, 3, []), (14, 15, 2, 0, 0, 0, []), (15, 18, 24, 0, 36, 11, []), (18, 19, 1, 0, 1, 0, []), (19, 20, 0, 1, 0, 0, []), (20, 21, 27, 0, 0, 0, []), (21, 22, 2, 0, 0, 0, []), (22, 25, 24, 0, 37, 11, []), (25, 26, 1, 0, 1, 0, []), (26, 27, 0, 1, 0, 0, []), (27, 28, 27, 0, 0, 0, []), (28, 29, 0, 0, 0, 0, []), (29, 30, 4, 0, 2, 0, []), (30, 31, 1, 0, 2, 0, []), (31, 32, 1, 0, 1, 0, []), (32, 35, 20, 0, 143, 3, []), (35, 36, 2, 0, 0, 0, []), (36, 39, 24, 0, 0, 11, []), (39, 42, 0, 633, 0, 0, []), (42, 43, 1, 0, 2, 0, []), (43, 44, 8, 0, 0, 0, []), (44, 45, 26, 0, 0, 0, []), (45, 46, 2, 0, 0, 0, []), (46, 49, 24, 0, 0, 11, []), (49, 52, 0, 633, 0, 0, []), (52, 53, 1, 0, 1, 0, []), (53, 54, 8, 0, 0, 0, []), (54, 55, 26, 0, 0, 0, []), (55, 58, 20, 0, 137, 3, []), (58, 59, 2, 0, 0, 0, []), (59, 62, 24, 0, 36, 11, []), (62, 63, 1, 0, 2, 0, []), (63, 64, 26, 0, 0, 0, []), (64, 65, 0, 1, 0, 0, []), (65, 66, 8, 0, 0, 0, []), (66, 67, 2, 0, 0, 0, []), (67, 70, 24, 0, 36, 11, []), (70, 71, 1, 0, 1, 0, []), (71, 72, 26, 0, 0, 0, []), (72, 75, 20, 0, 78, 3, []), (75, 78, 18, 0, 137, 0, []), (78, 79, 2, 0, 0, 0, []), (79, 82, 24, 0, 37, 11, []), (82, 83, 1, 0, 1, 0, []), (83, 84, 2, 0, 0, 0, []), (84, 87, 24, 0, 36, 11, []), (87, 88, 1, 0, 2, 0, []), (88, 89, 26, 0, 0, 0, []), (89, 90, 0, 1, 0, 0, []), (90, 91, 8, 0, 0, 0, []), (91, 92, 2, 0, 0, 0, []), (92, 95, 24, 0, 36, 11, []), (95, 96, 1, 0, 1, 0, []), (96, 97, 26, 0, 0, 0, []), (97, 100, 20, 0, 109, 5, []), (100, 101, 2, 0, 0, 0, []), (101, 104, 24, 0, 37, 11, []), (104, 105, 1, 0, 2, 0, []), (105, 106, 26, 0, 0, 0, []), (106, 109, 18, 0, 122, 0, []), (109, 110, 2, 0, 0, 0, []), (110, 113, 24, 0, 37, 11, []), (113, 114, 1, 0, 1, 0, []), (114, 115, 26, 0, 0, 0, []), (115, 116, 2, 0, 0, 0, []), (116, 119, 24, 0, 37, 11, []), (119, 120, 1, 0, 2, 0, []), (120, 121, 26, 0, 0, 0, []), (121, 122, 8, 0, 0, 0, []), (122, 123, 27, 0, 0, 0, []), (123, 124, 2, 0, 0, 0, []), (124, 127, 24, 0, 36, 11, []), (127, 128, 1, 0, 1, 0, []), (128, 129, 2, 0, 0, 0, []), (129, 132, 24, 0, 36, 11, []), (132, 133, 1, 0, 2, 0, []), (133, 134, 26, 0, 0, 0, []), (134, 135, 0, 1, 0, 0, []), (135, 136, 8, 0, 0, 0, []), (136, 137, 27, 0, 0, 0, []), (137, 140, 7, 1, 2, 0, []), (140, 143, 18, 0, 30, 0, []), (143, 146, 7, 1, 1, 0, []), (146, 149, 18, 0, 2, 0, []), (149, 150, 37, 0, 0, 0, [])]
set_option maxRecDepth 100000 in
theorem ok269 : k269.all (chk 269 (qbt 269) (qow 269)) = true := by decide +kernel
/-- ClayBootsModel.row(I)I -/
def k270 : List En := [(0, 1, 1, 0, 1, 0, []), (1, 2, 0, 0, 0, 0, []), (2, 3, 0, 1, 0, 0, []), (3, 6, 38, 0, 151, 3, []), (6, 9, 19, 0, 11, 1, []), (9, 10, 0, -1, 0, 0, []), (10, 11, 34, 0, 0, 0, []), (11, 12, 2, 0, 0, 0, []), (12, 15, 44, 0, 269, 1, [(0, 11)]), (15, 16, 0, 0, 0, 0, []), (16, 17, 4, 0, 2, 0, []), (17, 18, 0, 1, 0, 0, []), (18, 19, 4, 0, 3, 0, []), (19, 20, 0, 0, 0, 0, []), (20, 22, 4, 0, 4, 0, []), (22, 24, 1, 0, 4, 0, []), (24, 25, 2, 0, 0, 0, []), (25, 28, 24, 0, 0, 11, []), (28, 31, 0, 240, 0, 0, []), (31, 32, 26, 0, 0, 0, []), (32, 35, 20, 0, 94, 3, []), (35, 36, 2, 0, 0, 0, []), (36, 39, 24, 0, 36, 11, []), (39, 41, 1, 0, 4, 0, []), (41, 42, 26, 0, 0, 0, []), (42, 43, 1, 0, 2, 0, []), (43, 46, 20, 0, 49, 3, []), (46, 49, 18, 0, 88, 0, []), (49, 50, 2, 0, 0, 0, []), (50, 53, 24, 0, 36, 11, []), (53, 55, 1, 0, 4, 0, []), (55, 56, 26, 0, 0, 0, []), (56, 57, 1, 0, 2, 0, []), (57, 60, 20, 0, 70, 5, []), (60, 61, 2, 0, 0, 0, []), (61, 64, 24, 0, 37, 11, []), (64, 66, 1, 0, 4, 0, []), (66, 67, 26, 0, 0, 0, []), (67, 70, 18, 0, 79, 0, []), (70, 71, 1, 0, 3, 0, []), (71, 72, 2, 0, 0, 0, []), (72, 75, 24, 0, 37, 11, []), (75, 77, 1, 0, 4, 0, []), (77, 78, 26, 0, 0, 0, []), (78, 79, 8, 0, 0, 0, []), (79, 80, 4, 0, 3, 0, []), (80, 81, 2, 0, 0, 0, []), (81, 84, 24, 0, 36, 11, []), (84, 86, 1, 0, 4, 0, []), (86, 87, 26, 0, 0, 0, []), (87, 88, 4, 0, 2, 0, []), (88, 91, 7, 1, 4, 0, []), (91, 94, 18, 0, 22, 0, []), (94, 95, 1, 0, 1, 0, []), (95, 98, 19, 0, 102, 1, []), (98, 99, 1, 0, 2, 0, []), (99, 102, 18, 0, 103, 0, []), (102, 103, 1, 0, 3, 0, []), (103, 104, 34, 0, 0, 0, [])]
set_option maxRecDepth 100000 in
theorem ok270 : k270.all (chk 270 (qbt 270) (qow 270)) = true := by decide +kernel
/-- ClayBootsModel.game(I)I -/
def k271 : List En := [(0, 1, 1, 0, 1, 0, []), (1, 2, 0, 0, 0, 0, []), (2, 3, 0, 1, 0, 0, []), (3, 6, 38, 0, 151, 3, []), (6, 9, 19, 0, 11, 1, []), (9, 10, 0, -1, 0, 0, []), (10, 11, 34, 0, 0, 0, []), (11, 12, 0, 0, 0, 0, []), (12, 13, 4, 0, 2, 0, []), (13, 14, 0, 0, 0, 0, []), (14, 15, 4, 0, 3, 0, []), (15, 16, 1, 0, 3, 0, []), (16, 17, 2, 0, 0, 0, []), (17, 20, 24, 0, 0, 11, []), (20, 23, 0, 230, 0, 0, []), (23, 24, 26, 0, 0, 0, []), (24, 27, 20, 0, 43, 3, []), (27, 28, 1, 0, 2, 0, []), (28, 29, 2, 0, 0, 0, []), (29, 30, 1, 0, 3, 0, []), (30, 33, 44, 0, 231, 2, [(0, 11)]), (33, 34, 0, 4, 0, 0, []), (34, 35, 10, 0, 0, 0, []), (35, 36, 8, 0, 5, 0, []), (36, 37, 4, 0, 2, 0, []), (37, 40, 7, 1, 3, 0, []), (40, 43, 18, 0, 15, 0, []), (43, 44, 0, 0, 0, 0, []), (44, 45, 4, 0, 3, 0, []), (45, 46, 1, 0, 3, 0, []), (46, 47, 2, 0, 0, 0, []), (47, 50, 24, 0, 0, 11, []), (50, 53, 0, 230, 0, 0, []), (53, 54, 26, 0, 0, 0, []), (54, 57, 20, 0, 119, 3, []), (57, 58, 2, 0, 0, 0, []), (58, 59, 1, 0, 3, 0, []), (59, 62, 44, 0, 231, 2, [(0, 11)]), (62, 64, 4, 0, 4, 0, []), (64, 65, 0, 1, 0, 0, []), (65, 67, 4, 0, 5, 0, []), (67, 69, 1, 0, 5, 0, []), (69, 70, 0, 3, 0, 0, []), (70, 73, 20, 0, 113, 4, []), (73, 75, 1, 0, 5, 0, []), (75, 77, 1, 0, 4, 0, []), (77, 80, 20, 0, 113, 4, []), (80, 81, 1, 0, 2, 0, []), (81, 83, 1, 0, 4, 0, []), (83, 84, 0, 4, 0, 0, []), (84, 85, 10, 0, 0, 0, []), (85, 86, 8, 0, 5, 0, []), (86, 88, 1, 0, 4, 0, []), (88, 90, 1, 0, 5, 0, []), (90, 91, 8, 0, 1, 0, []), (91, 92, 0, 4, 0, 0, []), (92, 93, 10, 0, 0, 0, []), (93, 96, 20, 0, 107, 1, []), (96, 97, 1, 0, 1, 0, []), (97, 100, 19, 0, 104, 1, []), (100, 101, 1, 0, 3, 0, []), (101, 104, 18, 0, 106, 0, []), (104, 106, 1, 0, 5, 0, []), (106, 107, 34, 0, 0, 0, []), (107, 110, 7, 1, 5, 0, []), (110, 113, 18, 0, 67, 0, []), (113, 116, 7, 1, 3, 0, []), (116, 119, 18, 0, 45, 0, []), (119, 120, 0, -1, 0, 0, []), (120, 121, 34, 0, 0, 0, [])]
set_option maxRecDepth 100000 in
theorem ok271 : k271.all (chk 271 (qbt 271) (qow 271)) = true := by decide +kernel
/-- ClayBootsModel.image(Z)Z -/
def k272 : List En := [(0, 1, 1, 0, 1, 0, []), (1, 4, 19, 0, 13, 1, []), (4, 5, 2, 0, 0, 0, []), (5, 8, 24, 0, 5, 11, []), (8, 11, 19, 0, 13, 1, []), (11, 12, 0, 0, 0, 0, []), (12, 13, 35, 0, 0, 0, []), (13, 14, 0, 0, 0, 0, []), (14, 15, 4, 0, 2, 0, []), (15, 16, 1, 0, 2, 0, []), (16, 19, 0, 2129, 0, 0, []), (19, 22, 20, 0, 59, 3, []), (22, 23, 1, 0, 1, 0, []), (23, 26, 19, 0, 41, 0, []), (26, 27, 2, 0, 0, 0, []), (27, 30, 24, 0, 1, 11, []), (30, 31, 1, 0, 2, 0, []), (31, 32, 2, 0, 0, 0, []), (32, 35, 24, 0, 0, 11, []), (35, 36, 1, 0, 2, 0, []), (36, 37, 26, 0, 0, 0, []), (37, 38, 27, 0, 0, 0, []), (38, 41, 18, 0, 53, 0, []), (41, 42, 2, 0, 0, 0, []), (42, 45, 24, 0, 0, 11, []), (45, 46, 1, 0, 2, 0, []), (46, 47, 2, 0, 0, 0, []), (47, 50, 24, 0, 1, 11, []), (50, 51, 1, 0, 2, 0, []), (51, 52, 26, 0, 0, 0, []), (52, 53, 27, 0, 0, 0, []), (53, 56, 7, 1, 2, 0, []), (56, 59, 18, 0, 15, 0, []), (59, 60, 1, 0, 1, 0, []), (60, 63, 19, 0, 67, 1, []), (63, 64, 2, 0, 0, 0, []), (64, 67, 44, 0, 159, 1, [(0, 11)]), (67, 68, 2, 0, 0, 0, []), (68, 69, 0, 1, 0, 0, []), (69, 72, 25, 0, 5, 11, []), (72, 73, 0, 1, 0, 0, []), (73, 74, 35, 0, 0, 0, [])]
set_option maxRecDepth 100000 in
theorem ok272 : k272.all (chk 272 (qbt 272) (qow 272)) = true := by decide +kernel
/-- ClayBootsModel.look(I)I -/
def k273 : List En := [(0, 1, 1, 0, 1, 0, []), (1, 76, 23, 0, 194, 0, [(0, 76), (1, 85), (2, 94), (3, 103), (4, 110), (5, 117), (6, 124), (7, 131), (8, 139), (9, 146), (10, 153), (11, 162), (12, 171), (13, 180), (14, 189)]), (76, 77, 2, 0, 0, 0, []), (77, 80, 24, 0, 0, 11, []), (80, 83, 0, 229, 0, 0, []), (83, 84, 26, 0, 0, 0, []), (84, 85, 34, 0, 0, 0, []), (85, 86, 2, 0, 0, 0, []), (86, 89, 24, 0, 0, 11, []), (89, 92, 0, 230, 0, 0, []), (92, 93, 26, 0, 0, 0, []), (93, 94, 34, 0, 0, 0, []), (94, 95, 2, 0, 0, 0, []), (95, 98, 24, 0, 0, 11, []), (98, 101, 0, 231, 0, 0, []), (101, 102, 26, 0, 0, 0, []), (102, 103, 34, 0, 0, 0, []), (103, 104, 2, 0, 0, 0, []), (104, 107, 24, 0, 0, 11, []), (107, 108, 0, 0, 0, 0, []), (108, 109, 26, 0, 0, 0, []), (109, 110, 34, 0, 0, 0, []), (110, 111, 2, 0, 0, 0, []), (111, 114, 24, 0, 0, 11, []), (114, 115, 0, 1, 0, 0, []), (115, 116, 26, 0, 0, 0, []), (116, 117, 34, 0, 0, 0, []), (117, 118, 2, 0, 0, 0, []), (118, 121, 24, 0, 0, 11, []), (121, 122, 0, 2, 0, 0, []), (122, 123, 26, 0, 0, 0, []), (123, 124, 34, 0, 0, 0, []), (124, 125, 2, 0, 0, 0, []), (125, 128, 24, 0, 0, 11, []), (128, 129, 0, 3, 0, 0, []), (129, 130, 26, 0, 0, 0, []), (130, 131, 34, 0, 0, 0, []), (131, 132, 2, 0, 0, 0, []), (132, 135, 24, 0, 0, 11, []), (135, 137, 0, 6, 0, 0, []), (137, 138, 26, 0, 0, 0, []), (138, 139, 34, 0, 0, 0, []), (139, 140, 2, 0, 0, 0, []), (140, 143, 24, 0, 0, 11, []), (143, 144, 0, 5, 0, 0, []), (144, 145, 26, 0, 0, 0, []), (145, 146, 34, 0, 0, 0, []), (146, 147, 2, 0, 0, 0, []), (147, 150, 24, 0, 0, 11, []), (150, 151, 0, 4, 0, 0, []), (151, 152, 26, 0, 0, 0, []), (152, 153, 34, 0, 0, 0, []), (153, 154, 2, 0, 0, 0, []), (154, 157, 24, 0, 0, 11, []), (157, 160, 0, 232, 0, 0, []), (160, 161, 26, 0, 0, 0, []), (161, 162, 34, 0, 0, 0, []), (162, 163, 2, 0, 0, 0, []), (163, 166, 24, 0, 0, 11, []), (166, 169, 0, 233, 0, 0, []), (169, 170, 26, 0, 0, 0, []), (170, 171, 34, 0, 0, 0, []), (171, 172, 2, 0, 0, 0, []), (172, 175, 24, 0, 0, 11, []), (175, 178, 0, 234, 0, 0, []), (178, 179, 26, 0, 0, 0, []), (179, 180, 34, 0, 0, 0, []), (180, 181, 2, 0, 0, 0, []), (181, 184, 24, 0, 0, 11, []), (184, 187, 0, 235, 0, 0, []), (187, 188, 26, 0, 0, 0, []), (188, 189, 34, 0, 0, 0, []), (189, 190, 2, 0, 0, 0, []), (190, 193, 24, 0, 4, 11, []), (193, 194, 34, 0, 0, 0, []), (194, 195, 0, -1, 0, 0, []), (195, 196, 34, 0, 0, 0, [])]
set_option maxRecDepth 100000 in
theorem ok273 : k273.all (chk 273 (qbt 273) (qow 273)) = true := by decide +kernel
/-- java/lang/Integer.bitCount(I)I -/
def k274 : List En := [(0, 1, 1, 0, 0, 0, []), (1, 2, 1, 0, 0, 0, []), (2, 3, 0, 1, 0, 0, []), (3, 4, 8, 0, 8, 0, []), (4, 7, 0, 1431655765, 0, 0, []), (7, 8, 8, 0, 3, 0, []), (8, 9, 8, 0, 1, 0, []), (9, 10, 4, 0, 0, 0, []), (10, 11, 1, 0, 0, 0, []), (11, 14, 0, 858993459, 0, 0, []), (14, 15, 8, 0, 3, 0, []), (15, 16, 1, 0, 0, 0, []), (16, 17, 0, 2, 0, 0, []), (17, 18, 8, 0, 8, 0, []), (18, 21, 0, 858993459, 0, 0, []), (21, 22, 8, 0, 3, 0, []), (22, 23, 8, 0, 0, 0, []), (23, 24, 4, 0, 0, 0, []), (24, 25, 1, 0, 0, 0, []), (25, 26, 1, 0, 0, 0, []), (26, 27, 0, 4, 0, 0, []), (27, 28, 8, 0, 8, 0, []), (28, 29, 8, 0, 0, 0, []), (29, 32, 0, 252645135, 0, 0, []), (32, 33, 8, 0, 3, 0, []), (33, 34, 4, 0, 0, 0, []), (34, 35, 1, 0, 0, 0, []), (35, 36, 1, 0, 0, 0, []), (36, 38, 0, 8, 0, 0, []), (38, 39, 8, 0, 8, 0, []), (39, 40, 8, 0, 0, 0, []), (40, 41, 4, 0, 0, 0, []), (41, 42, 1, 0, 0, 0, []), (42, 43, 1, 0, 0, 0, []), (43, 45, 0, 16, 0, 0, []), (45, 46, 8, 0, 8, 0, []), (46, 47, 8, 0, 0, 0, []), (47, 48, 4, 0, 0, 0, []), (48, 49, 1, 0, 0, 0, []), (49, 51, 0, 63, 0, 0, []), (51, 52, 8, 0, 3, 0, []), (52, 53, 34, 0, 0, 0, [])]
set_option maxRecDepth 100000 in
theorem ok274 : k274.all (chk 274 (qbt 274) (qow 274)) = true := by decide +kernel
end
