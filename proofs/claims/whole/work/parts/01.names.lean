-- ===== PART A: goes FIRST, ahead of the names: the tables' words, and 'selects' of the private methods out of them =====
/-- a private method of a class that the tables say can be made, by its rows of tables_1 -/
def lw_okq (q : MethodName × Nat) : Prop := (q.1.cls ≠ "java/lang/invoke/MethodHandle" ∧ q.1.cls ≠ "java/lang/invoke/VarHandle") ∧ Cond.instantiable q.1.cls q.2 ∈ tables_1 ∧ Cond.privateMethod q.1 ∈ tables_1 ∧ Cond.instanceMethod q.1 ∈ tables_1
theorem lw_p0 : lw_okq (⟨"GlebeVowels$Tape", "passes", "(C)Z"⟩, 3) := ⟨⟨by decide +kernel, by decide +kernel⟩, List.mem_of_getElem? (i := 29) (by decide +kernel), List.mem_of_getElem? (i := 260) (by decide +kernel), List.mem_of_getElem? (i := 261) (by decide +kernel)⟩
theorem lw_p1 : lw_okq (⟨"GlebeVowels$Tape", "sign", "()I"⟩, 3) := ⟨⟨by decide +kernel, by decide +kernel⟩, List.mem_of_getElem? (i := 29) (by decide +kernel), List.mem_of_getElem? (i := 264) (by decide +kernel), List.mem_of_getElem? (i := 265) (by decide +kernel)⟩
theorem lw_p2 : lw_okq (⟨"GlebeVowels$Tape", "readHolders", "(LGlebeVowels$Land;)Z"⟩, 3) := ⟨⟨by decide +kernel, by decide +kernel⟩, List.mem_of_getElem? (i := 29) (by decide +kernel), List.mem_of_getElem? (i := 268) (by decide +kernel), List.mem_of_getElem? (i := 269) (by decide +kernel)⟩
theorem lw_p3 : lw_okq (⟨"GlebeVowels$Tape", "signAmong", "(Ljava/lang/String;)I"⟩, 3) := ⟨⟨by decide +kernel, by decide +kernel⟩, List.mem_of_getElem? (i := 29) (by decide +kernel), List.mem_of_getElem? (i := 273) (by decide +kernel), List.mem_of_getElem? (i := 274) (by decide +kernel)⟩
theorem lw_p4 : lw_okq (⟨"GlebeVowels$Tape", "readCells", "(LGlebeVowels$Land;)Z"⟩, 3) := ⟨⟨by decide +kernel, by decide +kernel⟩, List.mem_of_getElem? (i := 29) (by decide +kernel), List.mem_of_getElem? (i := 361) (by decide +kernel), List.mem_of_getElem? (i := 362) (by decide +kernel)⟩
theorem lw_p5 : lw_okq (⟨"GlebeVowels$Tape", "readRow", "(LGlebeVowels$Land;I)Z"⟩, 3) := ⟨⟨by decide +kernel, by decide +kernel⟩, List.mem_of_getElem? (i := 29) (by decide +kernel), List.mem_of_getElem? (i := 365) (by decide +kernel), List.mem_of_getElem? (i := 366) (by decide +kernel)⟩
theorem lw_p6 : lw_okq (⟨"GlebeVowels$Tape", "readWhose", "(LGlebeVowels$Land;)Z"⟩, 3) := ⟨⟨by decide +kernel, by decide +kernel⟩, List.mem_of_getElem? (i := 29) (by decide +kernel), List.mem_of_getElem? (i := 370) (by decide +kernel), List.mem_of_getElem? (i := 371) (by decide +kernel)⟩
theorem lw_p7 : lw_okq (⟨"GlebeVowels$Tape", "figure", "(I)I"⟩, 3) := ⟨⟨by decide +kernel, by decide +kernel⟩, List.mem_of_getElem? (i := 29) (by decide +kernel), List.mem_of_getElem? (i := 374) (by decide +kernel), List.mem_of_getElem? (i := 375) (by decide +kernel)⟩
theorem lw_p8 : lw_okq (⟨"GlebeVowels$Tape", "readWords", "(LGlebeVowels$Land;)Z"⟩, 3) := ⟨⟨by decide +kernel, by decide +kernel⟩, List.mem_of_getElem? (i := 29) (by decide +kernel), List.mem_of_getElem? (i := 378) (by decide +kernel), List.mem_of_getElem? (i := 379) (by decide +kernel)⟩
theorem lw_p9 : lw_okq (⟨"GlebeVowels$Tape", "readWord", "(LGlebeVowels$Land;I)Z"⟩, 3) := ⟨⟨by decide +kernel, by decide +kernel⟩, List.mem_of_getElem? (i := 29) (by decide +kernel), List.mem_of_getElem? (i := 382) (by decide +kernel), List.mem_of_getElem? (i := 383) (by decide +kernel)⟩
theorem lw_p10 : lw_okq (⟨"GlebeVowels$Tape", "readChange", "(LGlebeVowels$Land;)Z"⟩, 3) := ⟨⟨by decide +kernel, by decide +kernel⟩, List.mem_of_getElem? (i := 29) (by decide +kernel), List.mem_of_getElem? (i := 386) (by decide +kernel), List.mem_of_getElem? (i := 387) (by decide +kernel)⟩
theorem lw_p11 : lw_okq (⟨"GlebeVowels$Land", "speech", "(IJJ)I"⟩, 12) := ⟨⟨by decide +kernel, by decide +kernel⟩, List.mem_of_getElem? (i := 46) (by decide +kernel), List.mem_of_getElem? (i := 440) (by decide +kernel), List.mem_of_getElem? (i := 441) (by decide +kernel)⟩
theorem lw_p12 : lw_okq (⟨"GlebeVowels$Land", "commonVowels", "()I"⟩, 12) := ⟨⟨by decide +kernel, by decide +kernel⟩, List.mem_of_getElem? (i := 46) (by decide +kernel), List.mem_of_getElem? (i := 444) (by decide +kernel), List.mem_of_getElem? (i := 445) (by decide +kernel)⟩
theorem lw_p13 : lw_okq (⟨"GlebeVowels$Land", "vowelsOnceIn", "(J)I"⟩, 12) := ⟨⟨by decide +kernel, by decide +kernel⟩, List.mem_of_getElem? (i := 46) (by decide +kernel), List.mem_of_getElem? (i := 453) (by decide +kernel), List.mem_of_getElem? (i := 454) (by decide +kernel)⟩
theorem lw_p14 : lw_okq (⟨"GlebeVowels", "yearThatSoundsSo", "(I)I"⟩, 11) := ⟨⟨by decide +kernel, by decide +kernel⟩, List.mem_of_getElem? (i := 21) (by decide +kernel), List.mem_of_getElem? (i := 585) (by decide +kernel), List.mem_of_getElem? (i := 586) (by decide +kernel)⟩
theorem lw_p15 : lw_okq (⟨"GlebeVowels", "cheapestFor", "(II)J"⟩, 11) := ⟨⟨by decide +kernel, by decide +kernel⟩, List.mem_of_getElem? (i := 21) (by decide +kernel), List.mem_of_getElem? (i := 597) (by decide +kernel), List.mem_of_getElem? (i := 598) (by decide +kernel)⟩
def lw_privs_1 : List (MethodName × Nat) := [(⟨"GlebeVowels$Tape", "passes", "(C)Z"⟩, 3), (⟨"GlebeVowels$Tape", "sign", "()I"⟩, 3), (⟨"GlebeVowels$Tape", "readHolders", "(LGlebeVowels$Land;)Z"⟩, 3), (⟨"GlebeVowels$Tape", "signAmong", "(Ljava/lang/String;)I"⟩, 3), (⟨"GlebeVowels$Tape", "readCells", "(LGlebeVowels$Land;)Z"⟩, 3), (⟨"GlebeVowels$Tape", "readRow", "(LGlebeVowels$Land;I)Z"⟩, 3), (⟨"GlebeVowels$Tape", "readWhose", "(LGlebeVowels$Land;)Z"⟩, 3), (⟨"GlebeVowels$Tape", "figure", "(I)I"⟩, 3), (⟨"GlebeVowels$Tape", "readWords", "(LGlebeVowels$Land;)Z"⟩, 3), (⟨"GlebeVowels$Tape", "readWord", "(LGlebeVowels$Land;I)Z"⟩, 3), (⟨"GlebeVowels$Tape", "readChange", "(LGlebeVowels$Land;)Z"⟩, 3), (⟨"GlebeVowels$Land", "speech", "(IJJ)I"⟩, 12), (⟨"GlebeVowels$Land", "commonVowels", "()I"⟩, 12), (⟨"GlebeVowels$Land", "vowelsOnceIn", "(J)I"⟩, 12), (⟨"GlebeVowels", "yearThatSoundsSo", "(I)I"⟩, 11), (⟨"GlebeVowels", "cheapestFor", "(II)J"⟩, 11)]
theorem lw_r1 : ∀ q ∈ lw_privs_1, lw_okq q := List.forall_mem_cons.mpr ⟨lw_p0, List.forall_mem_cons.mpr ⟨lw_p1, List.forall_mem_cons.mpr ⟨lw_p2, List.forall_mem_cons.mpr ⟨lw_p3, List.forall_mem_cons.mpr ⟨lw_p4, List.forall_mem_cons.mpr ⟨lw_p5, List.forall_mem_cons.mpr ⟨lw_p6, List.forall_mem_cons.mpr ⟨lw_p7, List.forall_mem_cons.mpr ⟨lw_p8, List.forall_mem_cons.mpr ⟨lw_p9, List.forall_mem_cons.mpr ⟨lw_p10, List.forall_mem_cons.mpr ⟨lw_p11, List.forall_mem_cons.mpr ⟨lw_p12, List.forall_mem_cons.mpr ⟨lw_p13, List.forall_mem_cons.mpr ⟨lw_p14, List.forall_mem_cons.mpr ⟨lw_p15, fun _ h => absurd h List.not_mem_nil⟩⟩⟩⟩⟩⟩⟩⟩⟩⟩⟩⟩⟩⟩⟩⟩
theorem lw_p16 : lw_okq (⟨"GlebeVowels$Marriages", "mostOf", "(I)I"⟩, 4) := ⟨⟨by decide +kernel, by decide +kernel⟩, List.mem_of_getElem? (i := 167) (by decide +kernel), List.mem_of_getElem? (i := 648) (by decide +kernel), List.mem_of_getElem? (i := 649) (by decide +kernel)⟩
theorem lw_p17 : lw_okq (⟨"GlebeVowels$Marriages", "mostIn", "(I)I"⟩, 4) := ⟨⟨by decide +kernel, by decide +kernel⟩, List.mem_of_getElem? (i := 167) (by decide +kernel), List.mem_of_getElem? (i := 653) (by decide +kernel), List.mem_of_getElem? (i := 654) (by decide +kernel)⟩
theorem lw_p18 : lw_okq (⟨"GlebeVowels$Marriages", "mayPair", "(III)Z"⟩, 4) := ⟨⟨by decide +kernel, by decide +kernel⟩, List.mem_of_getElem? (i := 167) (by decide +kernel), List.mem_of_getElem? (i := 657) (by decide +kernel), List.mem_of_getElem? (i := 658) (by decide +kernel)⟩
theorem lw_p19 : lw_okq (⟨"GlebeVowels$Marriages", "pairOff", "()V"⟩, 4) := ⟨⟨by decide +kernel, by decide +kernel⟩, List.mem_of_getElem? (i := 167) (by decide +kernel), List.mem_of_getElem? (i := 665) (by decide +kernel), List.mem_of_getElem? (i := 666) (by decide +kernel)⟩
theorem lw_p20 : lw_okq (⟨"GlebeVowels", "areTwo", "(II)Z"⟩, 11) := ⟨⟨by decide +kernel, by decide +kernel⟩, List.mem_of_getElem? (i := 21) (by decide +kernel), List.mem_of_getElem? (i := 681) (by decide +kernel), List.mem_of_getElem? (i := 682) (by decide +kernel)⟩
theorem lw_p21 : lw_okq (⟨"GlebeVowels$Survey", "mark", "(J)V"⟩, 3) := ⟨⟨by decide +kernel, by decide +kernel⟩, List.mem_of_getElem? (i := 151) (by decide +kernel), List.mem_of_getElem? (i := 703) (by decide +kernel), List.mem_of_getElem? (i := 704) (by decide +kernel)⟩
theorem lw_p22 : lw_okq (⟨"GlebeVowels$ChangeFinder", "bind", "(II)V"⟩, 2) := ⟨⟨by decide +kernel, by decide +kernel⟩, List.mem_of_getElem? (i := 186) (by decide +kernel), List.mem_of_getElem? (i := 841) (by decide +kernel), List.mem_of_getElem? (i := 842) (by decide +kernel)⟩
theorem lw_p23 : lw_okq (⟨"GlebeVowelsModel", "readHolders", "()V"⟩, 30) := ⟨⟨by decide +kernel, by decide +kernel⟩, List.mem_of_getElem? (i := 863) (by decide +kernel), List.mem_of_getElem? (i := 973) (by decide +kernel), List.mem_of_getElem? (i := 974) (by decide +kernel)⟩
theorem lw_p24 : lw_okq (⟨"GlebeVowelsModel", "must", "(I)V"⟩, 30) := ⟨⟨by decide +kernel, by decide +kernel⟩, List.mem_of_getElem? (i := 863) (by decide +kernel), List.mem_of_getElem? (i := 977) (by decide +kernel), List.mem_of_getElem? (i := 978) (by decide +kernel)⟩
theorem lw_p25 : lw_okq (⟨"GlebeVowelsModel", "now", "()I"⟩, 30) := ⟨⟨by decide +kernel, by decide +kernel⟩, List.mem_of_getElem? (i := 863) (by decide +kernel), List.mem_of_getElem? (i := 981) (by decide +kernel), List.mem_of_getElem? (i := 982) (by decide +kernel)⟩
theorem lw_p26 : lw_okq (⟨"GlebeVowelsModel", "wrong", "()V"⟩, 30) := ⟨⟨by decide +kernel, by decide +kernel⟩, List.mem_of_getElem? (i := 863) (by decide +kernel), List.mem_of_getElem? (i := 985) (by decide +kernel), List.mem_of_getElem? (i := 986) (by decide +kernel)⟩
theorem lw_p27 : lw_okq (⟨"GlebeVowelsModel", "readSounds", "()V"⟩, 30) := ⟨⟨by decide +kernel, by decide +kernel⟩, List.mem_of_getElem? (i := 863) (by decide +kernel), List.mem_of_getElem? (i := 992) (by decide +kernel), List.mem_of_getElem? (i := 993) (by decide +kernel)⟩
theorem lw_p28 : lw_okq (⟨"GlebeVowelsModel", "readWhose", "()V"⟩, 30) := ⟨⟨by decide +kernel, by decide +kernel⟩, List.mem_of_getElem? (i := 863) (by decide +kernel), List.mem_of_getElem? (i := 1002) (by decide +kernel), List.mem_of_getElem? (i := 1003) (by decide +kernel)⟩
theorem lw_p29 : lw_okq (⟨"GlebeVowelsModel", "ownerBy", "(I)I"⟩, 30) := ⟨⟨by decide +kernel, by decide +kernel⟩, List.mem_of_getElem? (i := 863) (by decide +kernel), List.mem_of_getElem? (i := 1006) (by decide +kernel), List.mem_of_getElem? (i := 1007) (by decide +kernel)⟩
theorem lw_p30 : lw_okq (⟨"GlebeVowelsModel", "readWords", "()V"⟩, 30) := ⟨⟨by decide +kernel, by decide +kernel⟩, List.mem_of_getElem? (i := 863) (by decide +kernel), List.mem_of_getElem? (i := 1011) (by decide +kernel), List.mem_of_getElem? (i := 1012) (by decide +kernel)⟩
theorem lw_p31 : lw_okq (⟨"GlebeVowelsModel", "readChange", "()V"⟩, 30) := ⟨⟨by decide +kernel, by decide +kernel⟩, List.mem_of_getElem? (i := 863) (by decide +kernel), List.mem_of_getElem? (i := 1017) (by decide +kernel), List.mem_of_getElem? (i := 1018) (by decide +kernel)⟩
def lw_privs_2 : List (MethodName × Nat) := [(⟨"GlebeVowels$Marriages", "mostOf", "(I)I"⟩, 4), (⟨"GlebeVowels$Marriages", "mostIn", "(I)I"⟩, 4), (⟨"GlebeVowels$Marriages", "mayPair", "(III)Z"⟩, 4), (⟨"GlebeVowels$Marriages", "pairOff", "()V"⟩, 4), (⟨"GlebeVowels", "areTwo", "(II)Z"⟩, 11), (⟨"GlebeVowels$Survey", "mark", "(J)V"⟩, 3), (⟨"GlebeVowels$ChangeFinder", "bind", "(II)V"⟩, 2), (⟨"GlebeVowelsModel", "readHolders", "()V"⟩, 30), (⟨"GlebeVowelsModel", "must", "(I)V"⟩, 30), (⟨"GlebeVowelsModel", "now", "()I"⟩, 30), (⟨"GlebeVowelsModel", "wrong", "()V"⟩, 30), (⟨"GlebeVowelsModel", "readSounds", "()V"⟩, 30), (⟨"GlebeVowelsModel", "readWhose", "()V"⟩, 30), (⟨"GlebeVowelsModel", "ownerBy", "(I)I"⟩, 30), (⟨"GlebeVowelsModel", "readWords", "()V"⟩, 30), (⟨"GlebeVowelsModel", "readChange", "()V"⟩, 30)]
theorem lw_r2 : ∀ q ∈ lw_privs_2, lw_okq q := List.forall_mem_cons.mpr ⟨lw_p16, List.forall_mem_cons.mpr ⟨lw_p17, List.forall_mem_cons.mpr ⟨lw_p18, List.forall_mem_cons.mpr ⟨lw_p19, List.forall_mem_cons.mpr ⟨lw_p20, List.forall_mem_cons.mpr ⟨lw_p21, List.forall_mem_cons.mpr ⟨lw_p22, List.forall_mem_cons.mpr ⟨lw_p23, List.forall_mem_cons.mpr ⟨lw_p24, List.forall_mem_cons.mpr ⟨lw_p25, List.forall_mem_cons.mpr ⟨lw_p26, List.forall_mem_cons.mpr ⟨lw_p27, List.forall_mem_cons.mpr ⟨lw_p28, List.forall_mem_cons.mpr ⟨lw_p29, List.forall_mem_cons.mpr ⟨lw_p30, List.forall_mem_cons.mpr ⟨lw_p31, fun _ h => absurd h List.not_mem_nil⟩⟩⟩⟩⟩⟩⟩⟩⟩⟩⟩⟩⟩⟩⟩⟩
theorem lw_p32 : lw_okq (⟨"GlebeVowelsModel", "isHolder", "(I)Z"⟩, 30) := ⟨⟨by decide +kernel, by decide +kernel⟩, List.mem_of_getElem? (i := 863) (by decide +kernel), List.mem_of_getElem? (i := 1025) (by decide +kernel), List.mem_of_getElem? (i := 1026) (by decide +kernel)⟩
theorem lw_p33 : lw_okq (⟨"GlebeVowelsModel", "isCell", "(I)Z"⟩, 30) := ⟨⟨by decide +kernel, by decide +kernel⟩, List.mem_of_getElem? (i := 863) (by decide +kernel), List.mem_of_getElem? (i := 1058) (by decide +kernel), List.mem_of_getElem? (i := 1059) (by decide +kernel)⟩
theorem lw_p34 : lw_okq (⟨"GlebeVowelsModel", "isWord", "(I)Z"⟩, 30) := ⟨⟨by decide +kernel, by decide +kernel⟩, List.mem_of_getElem? (i := 863) (by decide +kernel), List.mem_of_getElem? (i := 1073) (by decide +kernel), List.mem_of_getElem? (i := 1074) (by decide +kernel)⟩
theorem lw_p35 : lw_okq (⟨"GlebeVowelsModel", "keep", "()V"⟩, 30) := ⟨⟨by decide +kernel, by decide +kernel⟩, List.mem_of_getElem? (i := 863) (by decide +kernel), List.mem_of_getElem? (i := 1085) (by decide +kernel), List.mem_of_getElem? (i := 1086) (by decide +kernel)⟩
theorem lw_p36 : lw_okq (⟨"GlebeVowelsModel", "isThere", "()Z"⟩, 30) := ⟨⟨by decide +kernel, by decide +kernel⟩, List.mem_of_getElem? (i := 863) (by decide +kernel), List.mem_of_getElem? (i := 1097) (by decide +kernel), List.mem_of_getElem? (i := 1098) (by decide +kernel)⟩
theorem lw_p37 : lw_okq (⟨"GlebeVowelsModel", "layThen", "()V"⟩, 30) := ⟨⟨by decide +kernel, by decide +kernel⟩, List.mem_of_getElem? (i := 863) (by decide +kernel), List.mem_of_getElem? (i := 1121) (by decide +kernel), List.mem_of_getElem? (i := 1122) (by decide +kernel)⟩
theorem lw_p38 : lw_okq (⟨"GlebeVowelsModel", "areAlike", "(II)Z"⟩, 30) := ⟨⟨by decide +kernel, by decide +kernel⟩, List.mem_of_getElem? (i := 863) (by decide +kernel), List.mem_of_getElem? (i := 1133) (by decide +kernel), List.mem_of_getElem? (i := 1134) (by decide +kernel)⟩
theorem lw_p39 : lw_okq (⟨"GlebeVowelsModel", "later", "(II)I"⟩, 30) := ⟨⟨by decide +kernel, by decide +kernel⟩, List.mem_of_getElem? (i := 863) (by decide +kernel), List.mem_of_getElem? (i := 1137) (by decide +kernel), List.mem_of_getElem? (i := 1138) (by decide +kernel)⟩
theorem lw_p40 : lw_okq (⟨"GlebeVowelsModel", "tryBuying", "(III)V"⟩, 30) := ⟨⟨by decide +kernel, by decide +kernel⟩, List.mem_of_getElem? (i := 863) (by decide +kernel), List.mem_of_getElem? (i := 1145) (by decide +kernel), List.mem_of_getElem? (i := 1146) (by decide +kernel)⟩
theorem lw_p41 : lw_okq (⟨"GlebeVowelsModel", "isToBuy", "(II)Z"⟩, 30) := ⟨⟨by decide +kernel, by decide +kernel⟩, List.mem_of_getElem? (i := 863) (by decide +kernel), List.mem_of_getElem? (i := 1149) (by decide +kernel), List.mem_of_getElem? (i := 1150) (by decide +kernel)⟩
theorem lw_p42 : lw_okq (⟨"GlebeVowelsModel", "doTalk", "(III)Z"⟩, 30) := ⟨⟨by decide +kernel, by decide +kernel⟩, List.mem_of_getElem? (i := 863) (by decide +kernel), List.mem_of_getElem? (i := 1164) (by decide +kernel), List.mem_of_getElem? (i := 1165) (by decide +kernel)⟩
theorem lw_p43 : lw_okq (⟨"GlebeVowelsModel", "tryHolding", "(III)V"⟩, 30) := ⟨⟨by decide +kernel, by decide +kernel⟩, List.mem_of_getElem? (i := 863) (by decide +kernel), List.mem_of_getElem? (i := 1189) (by decide +kernel), List.mem_of_getElem? (i := 1190) (by decide +kernel)⟩
theorem lw_p44 : lw_okq (⟨"GlebeVowelsModel", "worth", "()I"⟩, 30) := ⟨⟨by decide +kernel, by decide +kernel⟩, List.mem_of_getElem? (i := 863) (by decide +kernel), List.mem_of_getElem? (i := 1197) (by decide +kernel), List.mem_of_getElem? (i := 1198) (by decide +kernel)⟩
theorem lw_p45 : lw_okq (⟨"GlebeVowelsModel", "lastButOne", "()I"⟩, 30) := ⟨⟨by decide +kernel, by decide +kernel⟩, List.mem_of_getElem? (i := 863) (by decide +kernel), List.mem_of_getElem? (i := 1201) (by decide +kernel), List.mem_of_getElem? (i := 1202) (by decide +kernel)⟩
theorem lw_p46 : lw_okq (⟨"GlebeVowelsModel", "lastTurn", "()I"⟩, 30) := ⟨⟨by decide +kernel, by decide +kernel⟩, List.mem_of_getElem? (i := 863) (by decide +kernel), List.mem_of_getElem? (i := 1205) (by decide +kernel), List.mem_of_getElem? (i := 1206) (by decide +kernel)⟩
theorem lw_p47 : lw_okq (⟨"GlebeVowelsModel", "isFree", "(I)Z"⟩, 30) := ⟨⟨by decide +kernel, by decide +kernel⟩, List.mem_of_getElem? (i := 863) (by decide +kernel), List.mem_of_getElem? (i := 1209) (by decide +kernel), List.mem_of_getElem? (i := 1210) (by decide +kernel)⟩
def lw_privs_3 : List (MethodName × Nat) := [(⟨"GlebeVowelsModel", "isHolder", "(I)Z"⟩, 30), (⟨"GlebeVowelsModel", "isCell", "(I)Z"⟩, 30), (⟨"GlebeVowelsModel", "isWord", "(I)Z"⟩, 30), (⟨"GlebeVowelsModel", "keep", "()V"⟩, 30), (⟨"GlebeVowelsModel", "isThere", "()Z"⟩, 30), (⟨"GlebeVowelsModel", "layThen", "()V"⟩, 30), (⟨"GlebeVowelsModel", "areAlike", "(II)Z"⟩, 30), (⟨"GlebeVowelsModel", "later", "(II)I"⟩, 30), (⟨"GlebeVowelsModel", "tryBuying", "(III)V"⟩, 30), (⟨"GlebeVowelsModel", "isToBuy", "(II)Z"⟩, 30), (⟨"GlebeVowelsModel", "doTalk", "(III)Z"⟩, 30), (⟨"GlebeVowelsModel", "tryHolding", "(III)V"⟩, 30), (⟨"GlebeVowelsModel", "worth", "()I"⟩, 30), (⟨"GlebeVowelsModel", "lastButOne", "()I"⟩, 30), (⟨"GlebeVowelsModel", "lastTurn", "()I"⟩, 30), (⟨"GlebeVowelsModel", "isFree", "(I)Z"⟩, 30)]
theorem lw_r3 : ∀ q ∈ lw_privs_3, lw_okq q := List.forall_mem_cons.mpr ⟨lw_p32, List.forall_mem_cons.mpr ⟨lw_p33, List.forall_mem_cons.mpr ⟨lw_p34, List.forall_mem_cons.mpr ⟨lw_p35, List.forall_mem_cons.mpr ⟨lw_p36, List.forall_mem_cons.mpr ⟨lw_p37, List.forall_mem_cons.mpr ⟨lw_p38, List.forall_mem_cons.mpr ⟨lw_p39, List.forall_mem_cons.mpr ⟨lw_p40, List.forall_mem_cons.mpr ⟨lw_p41, List.forall_mem_cons.mpr ⟨lw_p42, List.forall_mem_cons.mpr ⟨lw_p43, List.forall_mem_cons.mpr ⟨lw_p44, List.forall_mem_cons.mpr ⟨lw_p45, List.forall_mem_cons.mpr ⟨lw_p46, List.forall_mem_cons.mpr ⟨lw_p47, fun _ h => absurd h List.not_mem_nil⟩⟩⟩⟩⟩⟩⟩⟩⟩⟩⟩⟩⟩⟩⟩⟩
theorem lw_p48 : lw_okq (⟨"GlebeVowelsModel", "firstTurn", "()I"⟩, 30) := ⟨⟨by decide +kernel, by decide +kernel⟩, List.mem_of_getElem? (i := 863) (by decide +kernel), List.mem_of_getElem? (i := 1213) (by decide +kernel), List.mem_of_getElem? (i := 1214) (by decide +kernel)⟩
theorem lw_p49 : lw_okq (⟨"GlebeVowelsModel", "secondTurn", "()I"⟩, 30) := ⟨⟨by decide +kernel, by decide +kernel⟩, List.mem_of_getElem? (i := 863) (by decide +kernel), List.mem_of_getElem? (i := 1217) (by decide +kernel), List.mem_of_getElem? (i := 1218) (by decide +kernel)⟩
theorem lw_p50 : lw_okq (⟨"GlebeVowelsModel", "cells", "()I"⟩, 30) := ⟨⟨by decide +kernel, by decide +kernel⟩, List.mem_of_getElem? (i := 863) (by decide +kernel), List.mem_of_getElem? (i := 1225) (by decide +kernel), List.mem_of_getElem? (i := 1226) (by decide +kernel)⟩
theorem lw_p51 : lw_okq (⟨"GlebeVowelsModel", "placeBy", "(I)I"⟩, 30) := ⟨⟨by decide +kernel, by decide +kernel⟩, List.mem_of_getElem? (i := 863) (by decide +kernel), List.mem_of_getElem? (i := 1229) (by decide +kernel), List.mem_of_getElem? (i := 1230) (by decide +kernel)⟩
theorem lw_p52 : lw_okq (⟨"GlebeVowelsModel", "refusal", "(IIII)I"⟩, 30) := ⟨⟨by decide +kernel, by decide +kernel⟩, List.mem_of_getElem? (i := 863) (by decide +kernel), List.mem_of_getElem? (i := 1261) (by decide +kernel), List.mem_of_getElem? (i := 1262) (by decide +kernel)⟩
def lw_privs_4 : List (MethodName × Nat) := [(⟨"GlebeVowelsModel", "firstTurn", "()I"⟩, 30), (⟨"GlebeVowelsModel", "secondTurn", "()I"⟩, 30), (⟨"GlebeVowelsModel", "cells", "()I"⟩, 30), (⟨"GlebeVowelsModel", "placeBy", "(I)I"⟩, 30), (⟨"GlebeVowelsModel", "refusal", "(IIII)I"⟩, 30)]
theorem lw_r4 : ∀ q ∈ lw_privs_4, lw_okq q := List.forall_mem_cons.mpr ⟨lw_p48, List.forall_mem_cons.mpr ⟨lw_p49, List.forall_mem_cons.mpr ⟨lw_p50, List.forall_mem_cons.mpr ⟨lw_p51, List.forall_mem_cons.mpr ⟨lw_p52, fun _ h => absurd h List.not_mem_nil⟩⟩⟩⟩⟩
def lw_privs : List (MethodName × Nat) := lw_privs_1 ++ (lw_privs_2 ++ (lw_privs_3 ++ (lw_privs_4)))
def lw_tbl : List Cond := k2_sels lw_privs ++ tables_1
theorem lw_privs_ok : ∀ q ∈ lw_privs, lw_okq q := by
  show ∀ q ∈ lw_privs_1 ++ (lw_privs_2 ++ (lw_privs_3 ++ (lw_privs_4))), lw_okq q
  exact List.forall_mem_append.mpr ⟨lw_r1, List.forall_mem_append.mpr ⟨lw_r2, List.forall_mem_append.mpr ⟨lw_r3, lw_r4⟩⟩⟩
def RX0 : String := "GlebeVowels$CellSets"
def TX0 : u_T := fun k => match k with
  | 0 => ("GlebeVowels$CellSets", "cells", "[J", true)
  | 1 => ("GlebeVowels$CellSets", "size", "I", false)
  | 2 => ("GlebeVowels$CellSets", "picked", "[I", true)
  | _ => ("GlebeVowels$CellSets", "n", "I", false)
def tyX0 : Nat → FieldType := fun k => match k with
  | 0 => .array .long
  | 1 => .int
  | 2 => .array .int
  | _ => .int
abbrev wsX00 : List Cond := u_ws RX0 TX0 4
theorem nmX0 : ∀ a, a < 4 → ∀ b, b < 4 → a ≠ b → (TX0 a).2.1 ≠ (TX0 b).2.1 := by decide +kernel
theorem tyX0_ok : ∀ k, k < 4 → parseFieldDescriptor (TX0 k).2.2.1 = some (tyX0 k) := by decide +kernel
abbrev cX0_init : ByteArray := prog_2_method_1_code
def yX0_init : MethodName := ⟨RX0, "<init>", "()V"⟩
abbrev cX0_begin : ByteArray := prog_2_method_2_code
def yX0_begin : MethodName := ⟨RX0, "begin", "(JI)I"⟩
abbrev cX0_current : ByteArray := prog_2_method_3_code
def yX0_current : MethodName := ⟨RX0, "current", "()J"⟩
abbrev cX0_advance : ByteArray := prog_2_method_4_code
def yX0_advance : MethodName := ⟨RX0, "advance", "()V"⟩
def RX1 : String := "GlebeVowels$ChangeFinder"
def TX1 : u_T := fun k => match k with
  | 0 => ("GlebeVowels$ChangeFinder", "fixed", "[I", true)
  | _ => ("GlebeVowels$ChangeFinder", "possible", "Z", false)
def tyX1 : Nat → FieldType := fun k => match k with
  | 0 => .array .int
  | _ => .boolean
abbrev wsX10 : List Cond := u_ws RX1 TX1 2
theorem nmX1 : ∀ a, a < 2 → ∀ b, b < 2 → a ≠ b → (TX1 a).2.1 ≠ (TX1 b).2.1 := by decide +kernel
theorem tyX1_ok : ∀ k, k < 2 → parseFieldDescriptor (TX1 k).2.2.1 = some (tyX1 k) := by decide +kernel
abbrev cX1_init : ByteArray := prog_3_method_1_code
def yX1_init : MethodName := ⟨RX1, "<init>", "()V"⟩
abbrev cX1_compare : ByteArray := prog_3_method_2_code
def yX1_compare : MethodName := ⟨RX1, "compare", "(LGlebeVowels$Sheet;II)V"⟩
abbrev cX1_bind : ByteArray := prog_3_method_3_code
def yX1_bind : MethodName := ⟨RX1, "bind", "(II)V"⟩
abbrev cX1_howMany : ByteArray := prog_3_method_4_code
def yX1_howMany : MethodName := ⟨RX1, "howMany", "()I"⟩
abbrev cX1_becomes : ByteArray := prog_3_method_5_code
def yX1_becomes : MethodName := ⟨RX1, "becomes", "(I)I"⟩
def RX2 : String := "GlebeVowels$Land"
def TX2 : u_T := fun k => match k with
  | 0 => ("GlebeVowels$Land", "holders", "I", false)
  | 1 => ("GlebeVowels$Land", "kinds", "[I", true)
  | 2 => ("GlebeVowels$Land", "rows", "I", false)
  | 3 => ("GlebeVowels$Land", "columns", "I", false)
  | 4 => ("GlebeVowels$Land", "words", "I", false)
  | 5 => ("GlebeVowels$Land", "lengths", "[I", true)
  | 6 => ("GlebeVowels$Land", "needs", "[I", true)
  | 7 => ("GlebeVowels$Land", "change", "[I", true)
  | 8 => ("GlebeVowels$Land", "year", "I", false)
  | 9 => ("GlebeVowels$Land", "sound", "[J", true)
  | 10 => ("GlebeVowels$Land", "held", "[J", true)
  | _ => ("GlebeVowels$Land", "next", "[J", true)
def tyX2 : Nat → FieldType := fun k => match k with
  | 0 => .int
  | 1 => .array .int
  | 2 => .int
  | 3 => .int
  | 4 => .int
  | 5 => .array .int
  | 6 => .array .int
  | 7 => .array .int
  | 8 => .int
  | 9 => .array .long
  | 10 => .array .long
  | _ => .array .long
abbrev wsX20 : List Cond := u_ws RX2 TX2 12
theorem nmX2 : ∀ a, a < 12 → ∀ b, b < 12 → a ≠ b → (TX2 a).2.1 ≠ (TX2 b).2.1 := by decide +kernel
theorem tyX2_ok : ∀ k, k < 12 → parseFieldDescriptor (TX2 k).2.2.1 = some (tyX2 k) := by decide +kernel
abbrev cX2_init : ByteArray := prog_4_method_1_code
def yX2_init : MethodName := ⟨RX2, "<init>", "()V"⟩
abbrev cX2_stands : ByteArray := prog_4_method_2_code
def yX2_stands : MethodName := ⟨RX2, "stands", "()Z"⟩
abbrev cX2_hasHolder : ByteArray := prog_4_method_3_code
def yX2_hasHolder : MethodName := ⟨RX2, "hasHolder", "(I)Z"⟩
abbrev cX2_hasWord : ByteArray := prog_4_method_4_code
def yX2_hasWord : MethodName := ⟨RX2, "hasWord", "(I)Z"⟩
abbrev cX2_hasCell : ByteArray := prog_4_method_5_code
def yX2_hasCell : MethodName := ⟨RX2, "hasCell", "(I)Z"⟩
abbrev cX2_cells : ByteArray := prog_4_method_6_code
def yX2_cells : MethodName := ⟨RX2, "cells", "()I"⟩
abbrev cX2_clear : ByteArray := prog_4_method_7_code
def yX2_clear : MethodName := ⟨RX2, "clear", "()V"⟩
abbrev cX2_become : ByteArray := prog_4_method_8_code
def yX2_become : MethodName := ⟨RX2, "become", "(LGlebeVowels$Land;)V"⟩
abbrev cX2_everyCell : ByteArray := prog_4_method_9_code
def yX2_everyCell : MethodName := ⟨RX2, "everyCell", "()J"⟩
abbrev cX2_soundAt : ByteArray := prog_4_method_10_code
def yX2_soundAt : MethodName := ⟨RX2, "soundAt", "(I)I"⟩
abbrev cX2_holderAt : ByteArray := prog_4_method_11_code
def yX2_holderAt : MethodName := ⟨RX2, "holderAt", "(I)I"⟩
abbrev cX2_hand : ByteArray := prog_4_method_12_code
def yX2_hand : MethodName := ⟨RX2, "hand", "(JI)V"⟩
abbrev cX2_tune : ByteArray := prog_4_method_13_code
def yX2_tune : MethodName := ⟨RX2, "tune", "(JI)V"⟩
abbrev cX2_passYear : ByteArray := prog_4_method_14_code
def yX2_passYear : MethodName := ⟨RX2, "passYear", "()I"⟩
abbrev cX2_soundsLike : ByteArray := prog_4_method_15_code
def yX2_soundsLike : MethodName := ⟨RX2, "soundsLike", "(LGlebeVowels$Land;)Z"⟩
abbrev cX2_sellDrawn : ByteArray := prog_4_method_16_code
def yX2_sellDrawn : MethodName := ⟨RX2, "sellDrawn", "(J)V"⟩
abbrev cX2_vowelsIn : ByteArray := prog_4_method_17_code
def yX2_vowelsIn : MethodName := ⟨RX2, "vowelsIn", "(J)I"⟩
abbrev cX2_vowelsOnceIn : ByteArray := prog_4_method_18_code
def yX2_vowelsOnceIn : MethodName := ⟨RX2, "vowelsOnceIn", "(J)I"⟩
abbrev cX2_commonVowels : ByteArray := prog_4_method_19_code
def yX2_commonVowels : MethodName := ⟨RX2, "commonVowels", "()I"⟩
abbrev cX2_speech : ByteArray := prog_4_method_20_code
def yX2_speech : MethodName := ⟨RX2, "speech", "(IJJ)I"⟩
abbrev cX2_speechOf : ByteArray := prog_4_method_21_code
def yX2_speechOf : MethodName := ⟨RX2, "speechOf", "(I)I"⟩
abbrev cX2_speechWith : ByteArray := prog_4_method_22_code
def yX2_speechWith : MethodName := ⟨RX2, "speechWith", "(IJ)I"⟩
abbrev cX2_speechBy : ByteArray := prog_4_method_23_code
def yX2_speechBy : MethodName := ⟨RX2, "speechBy", "(IJ)I"⟩
abbrev cX2_lead : ByteArray := prog_4_method_24_code
def yX2_lead : MethodName := ⟨RX2, "lead", "(IJIJ)I"⟩
abbrev cX2_speechOfAll : ByteArray := prog_4_method_25_code
def yX2_speechOfAll : MethodName := ⟨RX2, "speechOfAll", "()I"⟩
abbrev cX2_bestSpeaker : ByteArray := prog_4_method_26_code
def yX2_bestSpeaker : MethodName := ⟨RX2, "bestSpeaker", "()I"⟩
abbrev cX2_wordsOf : ByteArray := prog_4_method_27_code
def yX2_wordsOf : MethodName := ⟨RX2, "wordsOf", "(I)I"⟩
abbrev cX2_speakersOf : ByteArray := prog_4_method_28_code
def yX2_speakersOf : MethodName := ⟨RX2, "speakersOf", "(I)I"⟩
abbrev cX2_talkersWith : ByteArray := prog_4_method_29_code
def yX2_talkersWith : MethodName := ⟨RX2, "talkersWith", "(II)I"⟩
def RX3 : String := "GlebeVowels$Marriages"
def TX3 : u_T := fun k => match k with
  | 0 => ("GlebeVowels$Marriages", "most", "[I", true)
  | 1 => ("GlebeVowels$Marriages", "talkers", "[I", true)
  | 2 => ("GlebeVowels$Marriages", "mates", "[I", true)
  | _ => ("GlebeVowels$Marriages", "pairs", "I", false)
def tyX3 : Nat → FieldType := fun k => match k with
  | 0 => .array .int
  | 1 => .array .int
  | 2 => .array .int
  | _ => .int
abbrev wsX30 : List Cond := u_ws RX3 TX3 4
theorem nmX3 : ∀ a, a < 4 → ∀ b, b < 4 → a ≠ b → (TX3 a).2.1 ≠ (TX3 b).2.1 := by decide +kernel
theorem tyX3_ok : ∀ k, k < 4 → parseFieldDescriptor (TX3 k).2.2.1 = some (tyX3 k) := by decide +kernel
abbrev cX3_init : ByteArray := prog_5_method_1_code
def yX3_init : MethodName := ⟨RX3, "<init>", "()V"⟩
abbrev cX3_pairs : ByteArray := prog_5_method_2_code
def yX3_pairs : MethodName := ⟨RX3, "pairs", "()I"⟩
abbrev cX3_mateOf : ByteArray := prog_5_method_3_code
def yX3_mateOf : MethodName := ⟨RX3, "mateOf", "(I)I"⟩
abbrev cX3_arrange : ByteArray := prog_5_method_4_code
def yX3_arrange : MethodName := ⟨RX3, "arrange", "(LGlebeVowels$Land;I)V"⟩
abbrev cX3_mostOf : ByteArray := prog_5_method_5_code
def yX3_mostOf : MethodName := ⟨RX3, "mostOf", "(I)I"⟩
abbrev cX3_mostIn : ByteArray := prog_5_method_6_code
def yX3_mostIn : MethodName := ⟨RX3, "mostIn", "(I)I"⟩
abbrev cX3_mayPair : ByteArray := prog_5_method_7_code
def yX3_mayPair : MethodName := ⟨RX3, "mayPair", "(III)Z"⟩
abbrev cX3_pairOff : ByteArray := prog_5_method_8_code
def yX3_pairOff : MethodName := ⟨RX3, "pairOff", "()V"⟩
def RX4 : String := "GlebeVowels$Past"
def TX4 : u_T := fun k => match k with
  | 0 => ("GlebeVowels$Past", "lands", "[LGlebeVowels$Land;", true)
  | 1 => ("GlebeVowels$Past", "at", "I", false)
  | _ => ("GlebeVowels$Past", "size", "I", false)
def tyX4 : Nat → FieldType := fun k => match k with
  | 0 => .array (.object "GlebeVowels$Land")
  | 1 => .int
  | _ => .int
abbrev wsX40 : List Cond := u_ws RX4 TX4 3
theorem nmX4 : ∀ a, a < 3 → ∀ b, b < 3 → a ≠ b → (TX4 a).2.1 ≠ (TX4 b).2.1 := by decide +kernel
theorem tyX4_ok : ∀ k, k < 3 → parseFieldDescriptor (TX4 k).2.2.1 = some (tyX4 k) := by decide +kernel
abbrev cX4_init : ByteArray := prog_6_method_1_code
def yX4_init : MethodName := ⟨RX4, "<init>", "()V"⟩
abbrev cX4_size : ByteArray := prog_6_method_2_code
def yX4_size : MethodName := ⟨RX4, "size", "()I"⟩
abbrev cX4_forget : ByteArray := prog_6_method_3_code
def yX4_forget : MethodName := ⟨RX4, "forget", "()V"⟩
abbrev cX4_keep : ByteArray := prog_6_method_4_code
def yX4_keep : MethodName := ⟨RX4, "keep", "(LGlebeVowels$Land;)V"⟩
abbrev cX4_bringBack : ByteArray := prog_6_method_5_code
def yX4_bringBack : MethodName := ⟨RX4, "bringBack", "(LGlebeVowels$Land;)Z"⟩
def RX5 : String := "GlebeVowels$Sheet"
def TX5 : u_T := fun k => match k with
  | 0 => ("GlebeVowels$Sheet", "lane", "I", true)
  | _ => ("GlebeVowels$Sheet", "items", "[J", true)
def tyX5 : Nat → FieldType := fun k => match k with
  | 0 => .int
  | _ => .array .long
abbrev wsX50 : List Cond := u_ws RX5 TX5 2
theorem nmX5 : ∀ a, a < 2 → ∀ b, b < 2 → a ≠ b → (TX5 a).2.1 ≠ (TX5 b).2.1 := by decide +kernel
theorem tyX5_ok : ∀ k, k < 2 → parseFieldDescriptor (TX5 k).2.2.1 = some (tyX5 k) := by decide +kernel
abbrev cX5_init : ByteArray := prog_7_method_1_code
def yX5_init : MethodName := ⟨RX5, "<init>", "(II)V"⟩
abbrev cX5_reaches : ByteArray := prog_7_method_2_code
def yX5_reaches : MethodName := ⟨RX5, "reaches", "(II)Z"⟩
abbrev cX5_put : ByteArray := prog_7_method_3_code
def yX5_put : MethodName := ⟨RX5, "put", "(IJ)J"⟩
abbrev cX5_vowelAt : ByteArray := prog_7_method_4_code
def yX5_vowelAt : MethodName := ⟨RX5, "vowelAt", "(I)I"⟩
abbrev cX5_hasVowelsAlone : ByteArray := prog_7_method_5_code
def yX5_hasVowelsAlone : MethodName := ⟨RX5, "hasVowelsAlone", "(II)Z"⟩
def RX6 : String := "GlebeVowels$Survey"
def TX6 : u_T := fun k => match k with
  | 0 => ("GlebeVowels$Survey", "often", "[I", true)
  | 1 => ("GlebeVowels$Survey", "inAll", "I", false)
  | _ => ("GlebeVowels$Survey", "fitting", "I", false)
def tyX6 : Nat → FieldType := fun k => match k with
  | 0 => .array .int
  | 1 => .int
  | _ => .int
abbrev wsX60 : List Cond := u_ws RX6 TX6 3
theorem nmX6 : ∀ a, a < 3 → ∀ b, b < 3 → a ≠ b → (TX6 a).2.1 ≠ (TX6 b).2.1 := by decide +kernel
theorem tyX6_ok : ∀ k, k < 3 → parseFieldDescriptor (TX6 k).2.2.1 = some (tyX6 k) := by decide +kernel
abbrev cX6_init : ByteArray := prog_8_method_1_code
def yX6_init : MethodName := ⟨RX6, "<init>", "()V"⟩
abbrev cX6_inAll : ByteArray := prog_8_method_2_code
def yX6_inAll : MethodName := ⟨RX6, "inAll", "()I"⟩
abbrev cX6_fitting : ByteArray := prog_8_method_3_code
def yX6_fitting : MethodName := ⟨RX6, "fitting", "()I"⟩
abbrev cX6_ask : ByteArray := prog_8_method_4_code
def yX6_ask : MethodName := ⟨RX6, "ask", "(LGlebeVowels$Land;ILGlebeVowels$CellSets;II)V"⟩
abbrev cX6_mark : ByteArray := prog_8_method_5_code
def yX6_mark : MethodName := ⟨RX6, "mark", "(J)V"⟩
abbrev cX6_nextToAsk : ByteArray := prog_8_method_6_code
def yX6_nextToAsk : MethodName := ⟨RX6, "nextToAsk", "(LGlebeVowels$Land;)I"⟩
def RX7 : String := "GlebeVowels$Tape"
def TX7 : u_T := fun k => match k with
  | 0 => ("GlebeVowels$Tape", "bytes", "[I", true)
  | 1 => ("GlebeVowels$Tape", "length", "I", false)
  | _ => ("GlebeVowels$Tape", "place", "I", false)
def tyX7 : Nat → FieldType := fun k => match k with
  | 0 => .array .int
  | 1 => .int
  | _ => .int
abbrev wsX70 : List Cond := u_ws RX7 TX7 3
theorem nmX7 : ∀ a, a < 3 → ∀ b, b < 3 → a ≠ b → (TX7 a).2.1 ≠ (TX7 b).2.1 := by decide +kernel
theorem tyX7_ok : ∀ k, k < 3 → parseFieldDescriptor (TX7 k).2.2.1 = some (tyX7 k) := by decide +kernel
abbrev cX7_init : ByteArray := prog_9_method_1_code
def yX7_init : MethodName := ⟨RX7, "<init>", "()V"⟩
abbrev cX7_size : ByteArray := prog_9_method_2_code
def yX7_size : MethodName := ⟨RX7, "size", "()I"⟩
abbrev cX7_fault : ByteArray := prog_9_method_3_code
def yX7_fault : MethodName := ⟨RX7, "fault", "()I"⟩
abbrev cX7_clear : ByteArray := prog_9_method_4_code
def yX7_clear : MethodName := ⟨RX7, "clear", "()V"⟩
abbrev cX7_append : ByteArray := prog_9_method_5_code
def yX7_append : MethodName := ⟨RX7, "append", "(I)Z"⟩
abbrev cX7_readInto : ByteArray := prog_9_method_6_code
def yX7_readInto : MethodName := ⟨RX7, "readInto", "(LGlebeVowels$Land;)Z"⟩
abbrev cX7_sign : ByteArray := prog_9_method_7_code
def yX7_sign : MethodName := ⟨RX7, "sign", "()I"⟩
abbrev cX7_passes : ByteArray := prog_9_method_8_code
def yX7_passes : MethodName := ⟨RX7, "passes", "(C)Z"⟩
abbrev cX7_signAmong : ByteArray := prog_9_method_9_code
def yX7_signAmong : MethodName := ⟨RX7, "signAmong", "(Ljava/lang/String;)I"⟩
abbrev cX7_readHolders : ByteArray := prog_9_method_10_code
def yX7_readHolders : MethodName := ⟨RX7, "readHolders", "(LGlebeVowels$Land;)Z"⟩
abbrev cX7_readCells : ByteArray := prog_9_method_11_code
def yX7_readCells : MethodName := ⟨RX7, "readCells", "(LGlebeVowels$Land;)Z"⟩
abbrev cX7_readRow : ByteArray := prog_9_method_12_code
def yX7_readRow : MethodName := ⟨RX7, "readRow", "(LGlebeVowels$Land;I)Z"⟩
abbrev cX7_readWhose : ByteArray := prog_9_method_13_code
def yX7_readWhose : MethodName := ⟨RX7, "readWhose", "(LGlebeVowels$Land;)Z"⟩
abbrev cX7_figure : ByteArray := prog_9_method_14_code
def yX7_figure : MethodName := ⟨RX7, "figure", "(I)I"⟩
abbrev cX7_readWords : ByteArray := prog_9_method_15_code
def yX7_readWords : MethodName := ⟨RX7, "readWords", "(LGlebeVowels$Land;)Z"⟩
abbrev cX7_readWord : ByteArray := prog_9_method_16_code
def yX7_readWord : MethodName := ⟨RX7, "readWord", "(LGlebeVowels$Land;I)Z"⟩
abbrev cX7_readChange : ByteArray := prog_9_method_17_code
def yX7_readChange : MethodName := ⟨RX7, "readChange", "(LGlebeVowels$Land;)Z"⟩
def RX8 : String := "GlebeVowels"
def TX8 : u_T := fun k => match k with
  | 0 => ("GlebeVowels", "tape", "LGlebeVowels$Tape;", true)
  | 1 => ("GlebeVowels", "now", "LGlebeVowels$Land;", true)
  | 2 => ("GlebeVowels", "past", "LGlebeVowels$Past;", true)
  | 3 => ("GlebeVowels", "images", "[LGlebeVowels$Land;", true)
  | 4 => ("GlebeVowels", "sheets", "[LGlebeVowels$Sheet;", true)
  | 5 => ("GlebeVowels", "trial", "LGlebeVowels$Land;", true)
  | 6 => ("GlebeVowels", "earlier", "LGlebeVowels$Land;", true)
  | 7 => ("GlebeVowels", "sets", "LGlebeVowels$CellSets;", true)
  | 8 => ("GlebeVowels", "survey", "LGlebeVowels$Survey;", true)
  | 9 => ("GlebeVowels", "marriages", "LGlebeVowels$Marriages;", true)
  | _ => ("GlebeVowels", "finder", "LGlebeVowels$ChangeFinder;", true)
def tyX8 : Nat → FieldType := fun k => match k with
  | 0 => .object "GlebeVowels$Tape"
  | 1 => .object "GlebeVowels$Land"
  | 2 => .object "GlebeVowels$Past"
  | 3 => .array (.object "GlebeVowels$Land")
  | 4 => .array (.object "GlebeVowels$Sheet")
  | 5 => .object "GlebeVowels$Land"
  | 6 => .object "GlebeVowels$Land"
  | 7 => .object "GlebeVowels$CellSets"
  | 8 => .object "GlebeVowels$Survey"
  | 9 => .object "GlebeVowels$Marriages"
  | _ => .object "GlebeVowels$ChangeFinder"
abbrev wsX80 : List Cond := u_ws RX8 TX8 11
theorem nmX8 : ∀ a, a < 11 → ∀ b, b < 11 → a ≠ b → (TX8 a).2.1 ≠ (TX8 b).2.1 := by decide +kernel
theorem tyX8_ok : ∀ k, k < 11 → parseFieldDescriptor (TX8 k).2.2.1 = some (tyX8 k) := by decide +kernel
abbrev cX8_init : ByteArray := prog_1_method_1_code
def yX8_init : MethodName := ⟨RX8, "<init>", "()V"⟩
abbrev cX8_feed : ByteArray := prog_1_method_2_code
def yX8_feed : MethodName := ⟨RX8, "feed", "(I)I"⟩
abbrev cX8_land : ByteArray := prog_1_method_3_code
def yX8_land : MethodName := ⟨RX8, "land", "()I"⟩
abbrev cX8_holder : ByteArray := prog_1_method_4_code
def yX8_holder : MethodName := ⟨RX8, "holder", "(II)I"⟩
abbrev cX8_cell : ByteArray := prog_1_method_5_code
def yX8_cell : MethodName := ⟨RX8, "cell", "(II)I"⟩
abbrev cX8_word : ByteArray := prog_1_method_6_code
def yX8_word : MethodName := ⟨RX8, "word", "(II)I"⟩
abbrev cX8_as : ByteArray := prog_1_method_7_code
def yX8_as : MethodName := ⟨RX8, "as", "(II)I"⟩
abbrev cX8_sell : ByteArray := prog_1_method_8_code
def yX8_sell : MethodName := ⟨RX8, "sell", "(II)I"⟩
abbrev cX8_plough : ByteArray := prog_1_method_9_code
def yX8_plough : MethodName := ⟨RX8, "plough", "(II)I"⟩
abbrev cX8_year : ByteArray := prog_1_method_10_code
def yX8_year : MethodName := ⟨RX8, "year", "()I"⟩
abbrev cX8_undo : ByteArray := prog_1_method_11_code
def yX8_undo : MethodName := ⟨RX8, "undo", "()I"⟩
abbrev cX8_image : ByteArray := prog_1_method_12_code
def yX8_image : MethodName := ⟨RX8, "image", "(I)I"⟩
abbrev cX8_restore : ByteArray := prog_1_method_13_code
def yX8_restore : MethodName := ⟨RX8, "restore", "(I)I"⟩
abbrev cX8_behind : ByteArray := prog_1_method_14_code
def yX8_behind : MethodName := ⟨RX8, "behind", "(II)I"⟩
abbrev cX8_first : ByteArray := prog_1_method_15_code
def yX8_first : MethodName := ⟨RX8, "first", "(II)I"⟩
abbrev cX8_round : ByteArray := prog_1_method_16_code
def yX8_round : MethodName := ⟨RX8, "round", "(I)I"⟩
abbrev cX8_buys : ByteArray := prog_1_method_17_code
def yX8_buys : MethodName := ⟨RX8, "buys", "(III)I"⟩
abbrev cX8_scattered : ByteArray := prog_1_method_18_code
def yX8_scattered : MethodName := ⟨RX8, "scattered", "(II)I"⟩
abbrev cX8_talk : ByteArray := prog_1_method_19_code
def yX8_talk : MethodName := ⟨RX8, "talk", "(II)I"⟩
abbrev cX8_marry : ByteArray := prog_1_method_20_code
def yX8_marry : MethodName := ⟨RX8, "marry", "(II)I"⟩
abbrev cX8_letters : ByteArray := prog_1_method_21_code
def yX8_letters : MethodName := ⟨RX8, "letters", "(III)I"⟩
abbrev cX8_holdings : ByteArray := prog_1_method_22_code
def yX8_holdings : MethodName := ⟨RX8, "holdings", "(IIII)I"⟩
abbrev cX8_take : ByteArray := prog_1_method_23_code
def yX8_take : MethodName := ⟨RX8, "take", "(III)I"⟩
abbrev cX8_chance : ByteArray := prog_1_method_24_code
def yX8_chance : MethodName := ⟨RX8, "chance", "(IIII)I"⟩
abbrev cX8_drawn : ByteArray := prog_1_method_25_code
def yX8_drawn : MethodName := ⟨RX8, "drawn", "(III)I"⟩
abbrev cX8_sheet : ByteArray := prog_1_method_26_code
def yX8_sheet : MethodName := ⟨RX8, "sheet", "(III)I"⟩
abbrev cX8_drop : ByteArray := prog_1_method_27_code
def yX8_drop : MethodName := ⟨RX8, "drop", "(I)I"⟩
abbrev cX8_item : ByteArray := prog_1_method_28_code
def yX8_item : MethodName := ⟨RX8, "item", "(IIIJ)J"⟩
abbrev cX8_copy : ByteArray := prog_1_method_29_code
def yX8_copy : MethodName := ⟨RX8, "copy", "(IIIII)I"⟩
abbrev cX8_film : ByteArray := prog_1_method_30_code
def yX8_film : MethodName := ⟨RX8, "film", "(IIIII)I"⟩
abbrev cX8_changes : ByteArray := prog_1_method_31_code
def yX8_changes : MethodName := ⟨RX8, "changes", "(IIIII)I"⟩
abbrev cX8_count : ByteArray := prog_1_method_32_code
def yX8_count : MethodName := ⟨RX8, "count", "(I)I"⟩
abbrev cX8_areTwo : ByteArray := prog_1_method_33_code
def yX8_areTwo : MethodName := ⟨RX8, "areTwo", "(II)Z"⟩
abbrev cX8_yearThatSoundsSo : ByteArray := prog_1_method_34_code
def yX8_yearThatSoundsSo : MethodName := ⟨RX8, "yearThatSoundsSo", "(I)I"⟩
abbrev cX8_cheapestFor : ByteArray := prog_1_method_35_code
def yX8_cheapestFor : MethodName := ⟨RX8, "cheapestFor", "(II)J"⟩
abbrev cX8_outcome : ByteArray := prog_1_method_36_code
def yX8_outcome : MethodName := ⟨RX8, "outcome", "(LGlebeVowels$Land;IIIJJJ)I"⟩
abbrev cX8_luckySales : ByteArray := prog_1_method_37_code
def yX8_luckySales : MethodName := ⟨RX8, "luckySales", "(LGlebeVowels$Land;IIIJ)I"⟩
abbrev cX8_lettersFor : ByteArray := prog_1_method_38_code
def yX8_lettersFor : MethodName := ⟨RX8, "lettersFor", "(II)I"⟩
abbrev cX8_within : ByteArray := prog_1_method_39_code
def yX8_within : MethodName := ⟨RX8, "within", "(III)Z"⟩
abbrev cX8_covers : ByteArray := prog_1_method_40_code
def yX8_covers : MethodName := ⟨RX8, "covers", "(II)Z"⟩
abbrev cX8_isOfKind : ByteArray := prog_1_method_41_code
def yX8_isOfKind : MethodName := ⟨RX8, "isOfKind", "(II)Z"⟩
abbrev cX8_commonDivisor : ByteArray := prog_1_method_42_code
def yX8_commonDivisor : MethodName := ⟨RX8, "commonDivisor", "(II)I"⟩
abbrev cX8_leastCell : ByteArray := prog_1_method_43_code
def yX8_leastCell : MethodName := ⟨RX8, "leastCell", "(J)I"⟩
abbrev cX8_priceOf : ByteArray := prog_1_method_44_code
def yX8_priceOf : MethodName := ⟨RX8, "priceOf", "(J)I"⟩
abbrev cX8_cellInSet : ByteArray := prog_1_method_45_code
def yX8_cellInSet : MethodName := ⟨RX8, "cellInSet", "(JI)I"⟩
abbrev cX8_lowestOf : ByteArray := prog_1_method_46_code
def yX8_lowestOf : MethodName := ⟨RX8, "lowestOf", "(JI)J"⟩
abbrev cX8_beside : ByteArray := prog_1_method_47_code
def yX8_beside : MethodName := ⟨RX8, "beside", "(J)J"⟩
abbrev cX8_partAround : ByteArray := prog_1_method_48_code
def yX8_partAround : MethodName := ⟨RX8, "partAround", "(JJ)J"⟩
abbrev cX8_hasBit : ByteArray := prog_1_method_49_code
def yX8_hasBit : MethodName := ⟨RX8, "hasBit", "(II)Z"⟩
def RX9 : String := "GlebeVowelsModel"
def TX9 : u_T := fun k => match k with
  | 0 => ("GlebeVowelsModel", "land", "[I", true)
  | 1 => ("GlebeVowelsModel", "fresh", "[I", true)
  | 2 => ("GlebeVowelsModel", "then", "[I", true)
  | 3 => ("GlebeVowelsModel", "was", "[I", true)
  | 4 => ("GlebeVowelsModel", "acts", "I", false)
  | 5 => ("GlebeVowelsModel", "tape", "[I", true)
  | 6 => ("GlebeVowelsModel", "taped", "I", false)
  | 7 => ("GlebeVowelsModel", "at", "I", false)
  | 8 => ("GlebeVowelsModel", "fault", "I", false)
  | 9 => ("GlebeVowelsModel", "isKept", "[Z", true)
  | 10 => ("GlebeVowelsModel", "kept", "[I", true)
  | 11 => ("GlebeVowelsModel", "tried", "[I", true)
  | 12 => ("GlebeVowelsModel", "best", "[I", true)
  | 13 => ("GlebeVowelsModel", "bestPrice", "I", false)
  | 14 => ("GlebeVowelsModel", "bestMany", "I", false)
  | 15 => ("GlebeVowelsModel", "part", "[I", true)
  | 16 => ("GlebeVowelsModel", "talks", "[I", true)
  | 17 => ("GlebeVowelsModel", "pairs", "[I", true)
  | 18 => ("GlebeVowelsModel", "mate", "[I", true)
  | 19 => ("GlebeVowelsModel", "often", "[I", true)
  | 20 => ("GlebeVowelsModel", "fitting", "I", false)
  | 21 => ("GlebeVowelsModel", "allOfThem", "I", false)
  | 22 => ("GlebeVowelsModel", "free", "[I", true)
  | 23 => ("GlebeVowelsModel", "frees", "I", false)
  | 24 => ("GlebeVowelsModel", "firstOne", "I", false)
  | 25 => ("GlebeVowelsModel", "otherOne", "I", false)
  | 26 => ("GlebeVowelsModel", "lane", "[I", true)
  | 27 => ("GlebeVowelsModel", "many", "[I", true)
  | 28 => ("GlebeVowelsModel", "items", "[J", true)
  | _ => ("GlebeVowelsModel", "becomes", "[I", true)
def tyX9 : Nat → FieldType := fun k => match k with
  | 0 => .array .int
  | 1 => .array .int
  | 2 => .array .int
  | 3 => .array .int
  | 4 => .int
  | 5 => .array .int
  | 6 => .int
  | 7 => .int
  | 8 => .int
  | 9 => .array .boolean
  | 10 => .array .int
  | 11 => .array .int
  | 12 => .array .int
  | 13 => .int
  | 14 => .int
  | 15 => .array .int
  | 16 => .array .int
  | 17 => .array .int
  | 18 => .array .int
  | 19 => .array .int
  | 20 => .int
  | 21 => .int
  | 22 => .array .int
  | 23 => .int
  | 24 => .int
  | 25 => .int
  | 26 => .array .int
  | 27 => .array .int
  | 28 => .array .long
  | _ => .array .int
abbrev wsX90 : List Cond := u_ws RX9 TX9 30
theorem nmX9 : ∀ a, a < 30 → ∀ b, b < 30 → a ≠ b → (TX9 a).2.1 ≠ (TX9 b).2.1 := by decide +kernel
theorem tyX9_ok : ∀ k, k < 30 → parseFieldDescriptor (TX9 k).2.2.1 = some (tyX9 k) := by decide +kernel
abbrev cX9_init : ByteArray := prog_11_method_1_code
def yX9_init : MethodName := ⟨RX9, "<init>", "()V"⟩
abbrev cX9_in : ByteArray := prog_11_method_3_code
def yX9_in : MethodName := ⟨RX9, "in", "(JJJ)Z"⟩
abbrev cX9_has : ByteArray := prog_11_method_4_code
def yX9_has : MethodName := ⟨RX9, "has", "(II)Z"⟩
abbrev cX9_bits : ByteArray := prog_11_method_5_code
def yX9_bits : MethodName := ⟨RX9, "bits", "(I)I"⟩
abbrev cX9_isHolder : ByteArray := prog_11_method_6_code
def yX9_isHolder : MethodName := ⟨RX9, "isHolder", "(I)Z"⟩
abbrev cX9_isWord : ByteArray := prog_11_method_7_code
def yX9_isWord : MethodName := ⟨RX9, "isWord", "(I)Z"⟩
abbrev cX9_isCell : ByteArray := prog_11_method_8_code
def yX9_isCell : MethodName := ⟨RX9, "isCell", "(I)Z"⟩
abbrev cX9_isThere : ByteArray := prog_11_method_9_code
def yX9_isThere : MethodName := ⟨RX9, "isThere", "()Z"⟩
abbrev cX9_feed : ByteArray := prog_11_method_10_code
def yX9_feed : MethodName := ⟨RX9, "feed", "(I)I"⟩
abbrev cX9_vowelBy : ByteArray := prog_11_method_11_code
def yX9_vowelBy : MethodName := ⟨RX9, "vowelBy", "(I)I"⟩
abbrev cX9_soundBy : ByteArray := prog_11_method_12_code
def yX9_soundBy : MethodName := ⟨RX9, "soundBy", "(I)I"⟩
abbrev cX9_kindBy : ByteArray := prog_11_method_13_code
def yX9_kindBy : MethodName := ⟨RX9, "kindBy", "(I)I"⟩
abbrev cX9_now : ByteArray := prog_11_method_14_code
def yX9_now : MethodName := ⟨RX9, "now", "()I"⟩
abbrev cX9_wrong : ByteArray := prog_11_method_15_code
def yX9_wrong : MethodName := ⟨RX9, "wrong", "()V"⟩
abbrev cX9_must : ByteArray := prog_11_method_16_code
def yX9_must : MethodName := ⟨RX9, "must", "(I)V"⟩
abbrev cX9_readHolders : ByteArray := prog_11_method_17_code
def yX9_readHolders : MethodName := ⟨RX9, "readHolders", "()V"⟩
abbrev cX9_readSounds : ByteArray := prog_11_method_18_code
def yX9_readSounds : MethodName := ⟨RX9, "readSounds", "()V"⟩
abbrev cX9_ownerBy : ByteArray := prog_11_method_19_code
def yX9_ownerBy : MethodName := ⟨RX9, "ownerBy", "(I)I"⟩
abbrev cX9_readWhose : ByteArray := prog_11_method_20_code
def yX9_readWhose : MethodName := ⟨RX9, "readWhose", "()V"⟩
abbrev cX9_readWords : ByteArray := prog_11_method_21_code
def yX9_readWords : MethodName := ⟨RX9, "readWords", "()V"⟩
abbrev cX9_readChange : ByteArray := prog_11_method_22_code
def yX9_readChange : MethodName := ⟨RX9, "readChange", "()V"⟩
abbrev cX9_land : ByteArray := prog_11_method_23_code
def yX9_land : MethodName := ⟨RX9, "land", "()I"⟩
abbrev cX9_placeOf : ByteArray := prog_11_method_24_code
def yX9_placeOf : MethodName := ⟨RX9, "placeOf", "(I)I"⟩
abbrev cX9_numberOf : ByteArray := prog_11_method_25_code
def yX9_numberOf : MethodName := ⟨RX9, "numberOf", "(I)I"⟩
abbrev cX9_isIn : ByteArray := prog_11_method_26_code
def yX9_isIn : MethodName := ⟨RX9, "isIn", "([II)Z"⟩
abbrev cX9_priceOf : ByteArray := prog_11_method_27_code
def yX9_priceOf : MethodName := ⟨RX9, "priceOf", "(I)I"⟩
abbrev cX9_cellsOf : ByteArray := prog_11_method_28_code
def yX9_cellsOf : MethodName := ⟨RX9, "cellsOf", "([III)I"⟩
abbrev cX9_isHis : ByteArray := prog_11_method_29_code
def yX9_isHis : MethodName := ⟨RX9, "isHis", "([IIII)Z"⟩
abbrev cX9_isBeside : ByteArray := prog_11_method_30_code
def yX9_isBeside : MethodName := ⟨RX9, "isBeside", "([III)Z"⟩
abbrev cX9_says : ByteArray := prog_11_method_31_code
def yX9_says : MethodName := ⟨RX9, "says", "([II)I"⟩
abbrev cX9_can : ByteArray := prog_11_method_32_code
def yX9_can : MethodName := ⟨RX9, "can", "([III)Z"⟩
abbrev cX9_goOn : ByteArray := prog_11_method_33_code
def yX9_goOn : MethodName := ⟨RX9, "goOn", "([I)I"⟩
abbrev cX9_layThen : ByteArray := prog_11_method_34_code
def yX9_layThen : MethodName := ⟨RX9, "layThen", "()V"⟩
abbrev cX9_holder : ByteArray := prog_11_method_35_code
def yX9_holder : MethodName := ⟨RX9, "holder", "(II)I"⟩
abbrev cX9_named : ByteArray := prog_11_method_36_code
def yX9_named : MethodName := ⟨RX9, "named", "(I)I"⟩
abbrev cX9_cell : ByteArray := prog_11_method_37_code
def yX9_cell : MethodName := ⟨RX9, "cell", "(II)I"⟩
abbrev cX9_word : ByteArray := prog_11_method_38_code
def yX9_word : MethodName := ⟨RX9, "word", "(II)I"⟩
abbrev cX9_as : ByteArray := prog_11_method_39_code
def yX9_as : MethodName := ⟨RX9, "as", "(II)I"⟩
abbrev cX9_keep : ByteArray := prog_11_method_40_code
def yX9_keep : MethodName := ⟨RX9, "keep", "()V"⟩
abbrev cX9_sell : ByteArray := prog_11_method_41_code
def yX9_sell : MethodName := ⟨RX9, "sell", "(II)I"⟩
abbrev cX9_plough : ByteArray := prog_11_method_42_code
def yX9_plough : MethodName := ⟨RX9, "plough", "(II)I"⟩
abbrev cX9_year : ByteArray := prog_11_method_43_code
def yX9_year : MethodName := ⟨RX9, "year", "()I"⟩
abbrev cX9_undo : ByteArray := prog_11_method_44_code
def yX9_undo : MethodName := ⟨RX9, "undo", "()I"⟩
abbrev cX9_image : ByteArray := prog_11_method_45_code
def yX9_image : MethodName := ⟨RX9, "image", "(I)I"⟩
abbrev cX9_restore : ByteArray := prog_11_method_46_code
def yX9_restore : MethodName := ⟨RX9, "restore", "(I)I"⟩
abbrev cX9_behind : ByteArray := prog_11_method_47_code
def yX9_behind : MethodName := ⟨RX9, "behind", "(II)I"⟩
abbrev cX9_first : ByteArray := prog_11_method_48_code
def yX9_first : MethodName := ⟨RX9, "first", "(II)I"⟩
abbrev cX9_later : ByteArray := prog_11_method_49_code
def yX9_later : MethodName := ⟨RX9, "later", "(II)I"⟩
abbrev cX9_areAlike : ByteArray := prog_11_method_50_code
def yX9_areAlike : MethodName := ⟨RX9, "areAlike", "(II)Z"⟩
abbrev cX9_round : ByteArray := prog_11_method_51_code
def yX9_round : MethodName := ⟨RX9, "round", "(I)I"⟩
abbrev cX9_tryBuying : ByteArray := prog_11_method_52_code
def yX9_tryBuying : MethodName := ⟨RX9, "tryBuying", "(III)V"⟩
abbrev cX9_isToBuy : ByteArray := prog_11_method_53_code
def yX9_isToBuy : MethodName := ⟨RX9, "isToBuy", "(II)Z"⟩
abbrev cX9_buys : ByteArray := prog_11_method_54_code
def yX9_buys : MethodName := ⟨RX9, "buys", "(III)I"⟩
abbrev cX9_scattered : ByteArray := prog_11_method_55_code
def yX9_scattered : MethodName := ⟨RX9, "scattered", "(II)I"⟩
abbrev cX9_doTalk : ByteArray := prog_11_method_56_code
def yX9_doTalk : MethodName := ⟨RX9, "doTalk", "(III)Z"⟩
abbrev cX9_talk : ByteArray := prog_11_method_57_code
def yX9_talk : MethodName := ⟨RX9, "talk", "(II)I"⟩
abbrev cX9_lowest : ByteArray := prog_11_method_58_code
def yX9_lowest : MethodName := ⟨RX9, "lowest", "(I)I"⟩
abbrev cX9_marry : ByteArray := prog_11_method_59_code
def yX9_marry : MethodName := ⟨RX9, "marry", "(II)I"⟩
abbrev cX9_letters : ByteArray := prog_11_method_60_code
def yX9_letters : MethodName := ⟨RX9, "letters", "(III)I"⟩
abbrev cX9_tryHolding : ByteArray := prog_11_method_61_code
def yX9_tryHolding : MethodName := ⟨RX9, "tryHolding", "(III)V"⟩
abbrev cX9_holdings : ByteArray := prog_11_method_62_code
def yX9_holdings : MethodName := ⟨RX9, "holdings", "(IIII)I"⟩
abbrev cX9_worth : ByteArray := prog_11_method_63_code
def yX9_worth : MethodName := ⟨RX9, "worth", "()I"⟩
abbrev cX9_isFree : ByteArray := prog_11_method_64_code
def yX9_isFree : MethodName := ⟨RX9, "isFree", "(I)Z"⟩
abbrev cX9_lastTurn : ByteArray := prog_11_method_65_code
def yX9_lastTurn : MethodName := ⟨RX9, "lastTurn", "()I"⟩
abbrev cX9_lastButOne : ByteArray := prog_11_method_66_code
def yX9_lastButOne : MethodName := ⟨RX9, "lastButOne", "()I"⟩
abbrev cX9_secondTurn : ByteArray := prog_11_method_67_code
def yX9_secondTurn : MethodName := ⟨RX9, "secondTurn", "()I"⟩
abbrev cX9_firstTurn : ByteArray := prog_11_method_68_code
def yX9_firstTurn : MethodName := ⟨RX9, "firstTurn", "()I"⟩
abbrev cX9_take : ByteArray := prog_11_method_69_code
def yX9_take : MethodName := ⟨RX9, "take", "(III)I"⟩
abbrev cX9_cells : ByteArray := prog_11_method_70_code
def yX9_cells : MethodName := ⟨RX9, "cells", "()I"⟩
abbrev cX9_placeBy : ByteArray := prog_11_method_71_code
def yX9_placeBy : MethodName := ⟨RX9, "placeBy", "(I)I"⟩
abbrev cX9_chance : ByteArray := prog_11_method_72_code
def yX9_chance : MethodName := ⟨RX9, "chance", "(IIII)I"⟩
abbrev cX9_drawn : ByteArray := prog_11_method_73_code
def yX9_drawn : MethodName := ⟨RX9, "drawn", "(III)I"⟩
abbrev cX9_nobodys : ByteArray := prog_11_method_74_code
def yX9_nobodys : MethodName := ⟨RX9, "nobodys", "([I)I"⟩
abbrev cX9_isSheet : ByteArray := prog_11_method_75_code
def yX9_isSheet : MethodName := ⟨RX9, "isSheet", "(I)Z"⟩
abbrev cX9_cut : ByteArray := prog_11_method_76_code
def yX9_cut : MethodName := ⟨RX9, "cut", "(IJ)J"⟩
abbrev cX9_sheet : ByteArray := prog_11_method_77_code
def yX9_sheet : MethodName := ⟨RX9, "sheet", "(III)I"⟩
abbrev cX9_drop : ByteArray := prog_11_method_78_code
def yX9_drop : MethodName := ⟨RX9, "drop", "(I)I"⟩
abbrev cX9_refusal : ByteArray := prog_11_method_79_code
def yX9_refusal : MethodName := ⟨RX9, "refusal", "(IIII)I"⟩
abbrev cX9_item : ByteArray := prog_11_method_80_code
def yX9_item : MethodName := ⟨RX9, "item", "(IIIJ)J"⟩
abbrev cX9_copy : ByteArray := prog_11_method_81_code
def yX9_copy : MethodName := ⟨RX9, "copy", "(IIIII)I"⟩
abbrev cX9_film : ByteArray := prog_11_method_82_code
def yX9_film : MethodName := ⟨RX9, "film", "(IIIII)I"⟩
abbrev cX9_changes : ByteArray := prog_11_method_83_code
def yX9_changes : MethodName := ⟨RX9, "changes", "(IIIII)I"⟩
abbrev cX9_count : ByteArray := prog_11_method_84_code
def yX9_count : MethodName := ⟨RX9, "count", "(I)I"⟩
def RJ11 : String := "java/lang/Character"
def TJ11 : u_T := fun k => match k with
  | _ => ("", "", "", false)
def tyJ11 : Nat → FieldType := fun k => match k with
  | _ => .int
abbrev wsJ110 : List Cond := u_ws RJ11 TJ11 0
abbrev cJ11_isValidCodePoint_9a6ad : ByteArray := prog_12_method_11_code
def yJ11_isValidCodePoint_9a6ad : MethodName := ⟨RJ11, "isValidCodePoint", "(I)Z"⟩
abbrev cJ11_highSurrogate_5068e : ByteArray := prog_12_method_28_code
def yJ11_highSurrogate_5068e : MethodName := ⟨RJ11, "highSurrogate", "(I)C"⟩
abbrev cJ11_lowSurrogate_5068e : ByteArray := prog_12_method_29_code
def yJ11_lowSurrogate_5068e : MethodName := ⟨RJ11, "lowSurrogate", "(I)C"⟩
def RJ6 : String := "java/lang/Integer"
def TJ6 : u_T := fun k => match k with
  | _ => ("", "", "", false)
def tyJ6 : Nat → FieldType := fun k => match k with
  | _ => .int
abbrev wsJ60 : List Cond := u_ws RJ6 TJ6 0
abbrev cJ6_bitCount_0f7a4 : ByteArray := prog_13_method_49_code
def yJ6_bitCount_0f7a4 : MethodName := ⟨RJ6, "bitCount", "(I)I"⟩
def RJ13 : String := "java/lang/Long"
def TJ13 : u_T := fun k => match k with
  | _ => ("", "", "", false)
def tyJ13 : Nat → FieldType := fun k => match k with
  | _ => .int
abbrev wsJ130 : List Cond := u_ws RJ13 TJ13 0
abbrev cJ13_bitCount_95d88 : ByteArray := prog_14_method_50_code
def yJ13_bitCount_95d88 : MethodName := ⟨RJ13, "bitCount", "(J)I"⟩
def RJ9 : String := "java/lang/Math"
def TJ9 : u_T := fun k => match k with
  | _ => ("", "", "", false)
def tyJ9 : Nat → FieldType := fun k => match k with
  | _ => .int
abbrev wsJ90 : List Cond := u_ws RJ9 TJ9 0
abbrev cJ9_abs_0f7a4 : ByteArray := prog_15_method_59_code
def yJ9_abs_0f7a4 : MethodName := ⟨RJ9, "abs", "(I)I"⟩
abbrev cJ9_max_7cf53 : ByteArray := prog_15_method_65_code
def yJ9_max_7cf53 : MethodName := ⟨RJ9, "max", "(II)I"⟩
abbrev cJ9_min_7cf53 : ByteArray := prog_15_method_69_code
def yJ9_min_7cf53 : MethodName := ⟨RJ9, "min", "(II)I"⟩
def RJ0 : String := "java/lang/String"
def TJ0 : u_T := fun k => match k with
  | _ => ("", "", "", false)
def tyJ0 : Nat → FieldType := fun k => match k with
  | _ => .int
abbrev wsJ00 : List Cond := u_ws RJ0 TJ0 0
abbrev cJ0_length_8abf5 : ByteArray := prog_16_method_54_code
def yJ0_length_8abf5 : MethodName := ⟨RJ0, "length", "()I"⟩
abbrev cJ0_indexOf_0f7a4 : ByteArray := prog_16_method_79_code
def yJ0_indexOf_0f7a4 : MethodName := ⟨RJ0, "indexOf", "(I)I"⟩
abbrev cJ0_indexOf_7cf53 : ByteArray := prog_16_method_80_code
def yJ0_indexOf_7cf53 : MethodName := ⟨RJ0, "indexOf", "(II)I"⟩
abbrev cJ0_coder_7d493 : ByteArray := prog_16_method_152_code
def yJ0_coder_7d493 : MethodName := ⟨RJ0, "coder", "()B"⟩
abbrev cJ0_isLatin1_aae02 : ByteArray := prog_16_method_154_code
def yJ0_isLatin1_aae02 : MethodName := ⟨RJ0, "isLatin1", "()Z"⟩
abbrev cJ0_checkBoundsBeginEnd_23922 : ByteArray := prog_16_method_158_code
def yJ0_checkBoundsBeginEnd_23922 : MethodName := ⟨RJ0, "checkBoundsBeginEnd", "(III)V"⟩
def RJ1 : String := "java/lang/StringLatin1"
def TJ1 : u_T := fun k => match k with
  | _ => ("", "", "", false)
def tyJ1 : Nat → FieldType := fun k => match k with
  | _ => .int
abbrev wsJ10 : List Cond := u_ws RJ1 TJ1 0
abbrev cJ1_canEncode_9a6ad : ByteArray := prog_17_method_4_code
def yJ1_canEncode_9a6ad : MethodName := ⟨RJ1, "canEncode", "(I)Z"⟩
abbrev cJ1_indexOf_4cfef : ByteArray := prog_17_method_22_code
def yJ1_indexOf_4cfef : MethodName := ⟨RJ1, "indexOf", "([BIII)I"⟩
abbrev cJ1_indexOfChar_4cfef : ByteArray := prog_17_method_23_code
def yJ1_indexOfChar_4cfef : MethodName := ⟨RJ1, "indexOfChar", "([BIII)I"⟩
def RJ2 : String := "java/lang/StringUTF16"
def TJ2 : u_T := fun k => match k with
  | _ => ("", "", "", false)
def tyJ2 : Nat → FieldType := fun k => match k with
  | _ => .int
abbrev wsJ20 : List Cond := u_ws RJ2 TJ2 0
abbrev cJ2_getChar_3b067 : ByteArray := prog_18_method_5_code
def yJ2_getChar_3b067 : MethodName := ⟨RJ2, "getChar", "([BI)C"⟩
abbrev cJ2_length_9d52b : ByteArray := prog_18_method_6_code
def yJ2_length_9d52b : MethodName := ⟨RJ2, "length", "([B)I"⟩
abbrev cJ2_indexOf_4cfef : ByteArray := prog_18_method_40_code
def yJ2_indexOf_4cfef : MethodName := ⟨RJ2, "indexOf", "([BIII)I"⟩
abbrev cJ2_indexOfChar_4cfef : ByteArray := prog_18_method_47_code
def yJ2_indexOfChar_4cfef : MethodName := ⟨RJ2, "indexOfChar", "([BIII)I"⟩
abbrev cJ2_indexOfCharUnsafe_4cfef : ByteArray := prog_18_method_48_code
def yJ2_indexOfCharUnsafe_4cfef : MethodName := ⟨RJ2, "indexOfCharUnsafe", "([BIII)I"⟩
abbrev cJ2_indexOfSupplementary_4cfef : ByteArray := prog_18_method_49_code
def yJ2_indexOfSupplementary_4cfef : MethodName := ⟨RJ2, "indexOfSupplementary", "([BIII)I"⟩
abbrev cJ2_checkBoundsBeginEnd_d044e : ByteArray := prog_18_method_93_code
def yJ2_checkBoundsBeginEnd_d044e : MethodName := ⟨RJ2, "checkBoundsBeginEnd", "(II[B)V"⟩
def RJ10 : String := "java/lang/System"
def TJ10 : u_T := fun k => match k with
  | _ => ("", "", "", false)
def tyJ10 : Nat → FieldType := fun k => match k with
  | _ => .int
abbrev wsJ100 : List Cond := u_ws RJ10 TJ10 0
def RJ3 : String := "jdk/internal/util/Preconditions"
def TJ3 : u_T := fun k => match k with
  | _ => ("", "", "", false)
def tyJ3 : Nat → FieldType := fun k => match k with
  | _ => .int
abbrev wsJ30 : List Cond := u_ws RJ3 TJ3 0
abbrev cJ3_checkFromToIndex_8c36e : ByteArray := prog_20_method_12_code
def yJ3_checkFromToIndex_8c36e : MethodName := ⟨RJ3, "checkFromToIndex", "(IIILjava/util/function/BiFunction;)I"⟩
def RL : String := "GlebeVowelsLaw"
abbrev vwCl : List vw_C := [(RX0, TX0, 4), (RX1, TX1, 2), (RX2, TX2, 12), (RX3, TX3, 4), (RX4, TX4, 3), (RX5, TX5, 2), (RX6, TX6, 3), (RX7, TX7, 3), (RX8, TX8, 11), (RX9, TX9, 30)]
