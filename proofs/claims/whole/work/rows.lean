section
-- ===== PART A: goes FIRST, ahead of the names: the tables' words, and 'selects' of the private methods out of them =====
/-- a private method of a class that the tables say can be made, by its rows of tables_1 -/
def lw_okq (q : MethodName × Nat) : Prop := (q.1.cls ≠ "java/lang/invoke/MethodHandle" ∧ q.1.cls ≠ "java/lang/invoke/VarHandle") ∧ Cond.instantiable q.1.cls q.2 ∈ tables_1 ∧ Cond.privateMethod q.1 ∈ tables_1 ∧ Cond.instanceMethod q.1 ∈ tables_1
theorem lw_p0 : lw_okq (⟨"NobodySaid", "finding", "(I)I"⟩, 7) := ⟨⟨by decide +kernel, by decide +kernel⟩, List.mem_of_getElem? (i := 16) (by decide +kernel), List.mem_of_getElem? (i := 195) (by decide +kernel), List.mem_of_getElem? (i := 196) (by decide +kernel)⟩
theorem lw_p1 : lw_okq (⟨"NobodySaid", "exchange", "([IIII)I"⟩, 7) := ⟨⟨by decide +kernel, by decide +kernel⟩, List.mem_of_getElem? (i := 16) (by decide +kernel), List.mem_of_getElem? (i := 244) (by decide +kernel), List.mem_of_getElem? (i := 245) (by decide +kernel)⟩
theorem lw_p2 : lw_okq (⟨"NobodySaid", "keepsFrom", "(IIII)Z"⟩, 7) := ⟨⟨by decide +kernel, by decide +kernel⟩, List.mem_of_getElem? (i := 16) (by decide +kernel), List.mem_of_getElem? (i := 425) (by decide +kernel), List.mem_of_getElem? (i := 426) (by decide +kernel)⟩
theorem lw_p3 : lw_okq (⟨"NobodySaid", "hearersAreAsTold", "(LNobodySaid$Sheet;I)Z"⟩, 7) := ⟨⟨by decide +kernel, by decide +kernel⟩, List.mem_of_getElem? (i := 16) (by decide +kernel), List.mem_of_getElem? (i := 441) (by decide +kernel), List.mem_of_getElem? (i := 442) (by decide +kernel)⟩
theorem lw_p4 : lw_okq (⟨"NobodySaid", "sayingsAreAsTold", "(LNobodySaid$Sheet;I)Z"⟩, 7) := ⟨⟨by decide +kernel, by decide +kernel⟩, List.mem_of_getElem? (i := 16) (by decide +kernel), List.mem_of_getElem? (i := 453) (by decide +kernel), List.mem_of_getElem? (i := 454) (by decide +kernel)⟩
theorem lw_p5 : lw_okq (⟨"NobodySaid$Tape", "goesOn", "(I)Z"⟩, 5) := ⟨⟨by decide +kernel, by decide +kernel⟩, List.mem_of_getElem? (i := 103) (by decide +kernel), List.mem_of_getElem? (i := 505) (by decide +kernel), List.mem_of_getElem? (i := 506) (by decide +kernel)⟩
theorem lw_p6 : lw_okq (⟨"NobodySaid$Tape", "tokenEnd", "(I)I"⟩, 5) := ⟨⟨by decide +kernel, by decide +kernel⟩, List.mem_of_getElem? (i := 103) (by decide +kernel), List.mem_of_getElem? (i := 515) (by decide +kernel), List.mem_of_getElem? (i := 516) (by decide +kernel)⟩
theorem lw_p7 : lw_okq (⟨"NobodySaid$Tape", "keepToken", "(III)V"⟩, 5) := ⟨⟨by decide +kernel, by decide +kernel⟩, List.mem_of_getElem? (i := 103) (by decide +kernel), List.mem_of_getElem? (i := 519) (by decide +kernel), List.mem_of_getElem? (i := 520) (by decide +kernel)⟩
theorem lw_p8 : lw_okq (⟨"NobodySaid$Tape", "wordNumber", "(II)I"⟩, 5) := ⟨⟨by decide +kernel, by decide +kernel⟩, List.mem_of_getElem? (i := 103) (by decide +kernel), List.mem_of_getElem? (i := 523) (by decide +kernel), List.mem_of_getElem? (i := 524) (by decide +kernel)⟩
theorem lw_p9 : lw_okq (⟨"NobodySaid$Tape", "isAlike", "(III)Z"⟩, 5) := ⟨⟨by decide +kernel, by decide +kernel⟩, List.mem_of_getElem? (i := 103) (by decide +kernel), List.mem_of_getElem? (i := 576) (by decide +kernel), List.mem_of_getElem? (i := 577) (by decide +kernel)⟩
theorem lw_p10 : lw_okq (⟨"NobodySaid$Tape", "worth", "(II)I"⟩, 5) := ⟨⟨by decide +kernel, by decide +kernel⟩, List.mem_of_getElem? (i := 103) (by decide +kernel), List.mem_of_getElem? (i := 580) (by decide +kernel), List.mem_of_getElem? (i := 581) (by decide +kernel)⟩
theorem lw_p11 : lw_okq (⟨"NobodySaid$Reader", "readItem", "()Z"⟩, 4) := ⟨⟨by decide +kernel, by decide +kernel⟩, List.mem_of_getElem? (i := 97) (by decide +kernel), List.mem_of_getElem? (i := 585) (by decide +kernel), List.mem_of_getElem? (i := 586) (by decide +kernel)⟩
theorem lw_p12 : lw_okq (⟨"NobodySaid$Reader", "isWord", "(I)Z"⟩, 4) := ⟨⟨by decide +kernel, by decide +kernel⟩, List.mem_of_getElem? (i := 97) (by decide +kernel), List.mem_of_getElem? (i := 589) (by decide +kernel), List.mem_of_getElem? (i := 590) (by decide +kernel)⟩
theorem lw_p13 : lw_okq (⟨"NobodySaid$Reader", "readSaying", "()Z"⟩, 4) := ⟨⟨by decide +kernel, by decide +kernel⟩, List.mem_of_getElem? (i := 97) (by decide +kernel), List.mem_of_getElem? (i := 593) (by decide +kernel), List.mem_of_getElem? (i := 594) (by decide +kernel)⟩
theorem lw_p14 : lw_okq (⟨"NobodySaid$Reader", "readNumbers", "(III)Z"⟩, 4) := ⟨⟨by decide +kernel, by decide +kernel⟩, List.mem_of_getElem? (i := 97) (by decide +kernel), List.mem_of_getElem? (i := 597) (by decide +kernel), List.mem_of_getElem? (i := 598) (by decide +kernel)⟩
theorem lw_p15 : lw_okq (⟨"NobodySaid$Reader", "step", "()V"⟩, 4) := ⟨⟨by decide +kernel, by decide +kernel⟩, List.mem_of_getElem? (i := 97) (by decide +kernel), List.mem_of_getElem? (i := 601) (by decide +kernel), List.mem_of_getElem? (i := 602) (by decide +kernel)⟩
def lw_privs_1 : List (MethodName × Nat) := [(⟨"NobodySaid", "finding", "(I)I"⟩, 7), (⟨"NobodySaid", "exchange", "([IIII)I"⟩, 7), (⟨"NobodySaid", "keepsFrom", "(IIII)Z"⟩, 7), (⟨"NobodySaid", "hearersAreAsTold", "(LNobodySaid$Sheet;I)Z"⟩, 7), (⟨"NobodySaid", "sayingsAreAsTold", "(LNobodySaid$Sheet;I)Z"⟩, 7), (⟨"NobodySaid$Tape", "goesOn", "(I)Z"⟩, 5), (⟨"NobodySaid$Tape", "tokenEnd", "(I)I"⟩, 5), (⟨"NobodySaid$Tape", "keepToken", "(III)V"⟩, 5), (⟨"NobodySaid$Tape", "wordNumber", "(II)I"⟩, 5), (⟨"NobodySaid$Tape", "isAlike", "(III)Z"⟩, 5), (⟨"NobodySaid$Tape", "worth", "(II)I"⟩, 5), (⟨"NobodySaid$Reader", "readItem", "()Z"⟩, 4), (⟨"NobodySaid$Reader", "isWord", "(I)Z"⟩, 4), (⟨"NobodySaid$Reader", "readSaying", "()Z"⟩, 4), (⟨"NobodySaid$Reader", "readNumbers", "(III)Z"⟩, 4), (⟨"NobodySaid$Reader", "step", "()V"⟩, 4)]
theorem lw_r1 : ∀ q ∈ lw_privs_1, lw_okq q := List.forall_mem_cons.mpr ⟨lw_p0, List.forall_mem_cons.mpr ⟨lw_p1, List.forall_mem_cons.mpr ⟨lw_p2, List.forall_mem_cons.mpr ⟨lw_p3, List.forall_mem_cons.mpr ⟨lw_p4, List.forall_mem_cons.mpr ⟨lw_p5, List.forall_mem_cons.mpr ⟨lw_p6, List.forall_mem_cons.mpr ⟨lw_p7, List.forall_mem_cons.mpr ⟨lw_p8, List.forall_mem_cons.mpr ⟨lw_p9, List.forall_mem_cons.mpr ⟨lw_p10, List.forall_mem_cons.mpr ⟨lw_p11, List.forall_mem_cons.mpr ⟨lw_p12, List.forall_mem_cons.mpr ⟨lw_p13, List.forall_mem_cons.mpr ⟨lw_p14, List.forall_mem_cons.mpr ⟨lw_p15, fun _ h => absurd h List.not_mem_nil⟩⟩⟩⟩⟩⟩⟩⟩⟩⟩⟩⟩⟩⟩⟩⟩
theorem lw_p16 : lw_okq (⟨"NobodySaid$Reader", "isNumber", "(I)Z"⟩, 4) := ⟨⟨by decide +kernel, by decide +kernel⟩, List.mem_of_getElem? (i := 97) (by decide +kernel), List.mem_of_getElem? (i := 605) (by decide +kernel), List.mem_of_getElem? (i := 606) (by decide +kernel)⟩
theorem lw_p17 : lw_okq (⟨"NobodySaid$Reader", "readTalk", "()Z"⟩, 4) := ⟨⟨by decide +kernel, by decide +kernel⟩, List.mem_of_getElem? (i := 97) (by decide +kernel), List.mem_of_getElem? (i := 610) (by decide +kernel), List.mem_of_getElem? (i := 611) (by decide +kernel)⟩
theorem lw_p18 : lw_okq (⟨"NobodySaid$Reader", "readPerson", "(I)Z"⟩, 4) := ⟨⟨by decide +kernel, by decide +kernel⟩, List.mem_of_getElem? (i := 97) (by decide +kernel), List.mem_of_getElem? (i := 615) (by decide +kernel), List.mem_of_getElem? (i := 616) (by decide +kernel)⟩
theorem lw_p19 : lw_okq (⟨"NobodySaidModel", "become", "(II)I"⟩, 21) := ⟨⟨by decide +kernel, by decide +kernel⟩, List.mem_of_getElem? (i := 694) (by decide +kernel), List.mem_of_getElem? (i := 786) (by decide +kernel), List.mem_of_getElem? (i := 787) (by decide +kernel)⟩
theorem lw_p20 : lw_okq (⟨"NobodySaidModel", "finding", "(I)I"⟩, 21) := ⟨⟨by decide +kernel, by decide +kernel⟩, List.mem_of_getElem? (i := 694) (by decide +kernel), List.mem_of_getElem? (i := 791) (by decide +kernel), List.mem_of_getElem? (i := 792) (by decide +kernel)⟩
theorem lw_p21 : lw_okq (⟨"NobodySaidModel", "comes", "(II)I"⟩, 21) := ⟨⟨by decide +kernel, by decide +kernel⟩, List.mem_of_getElem? (i := 694) (by decide +kernel), List.mem_of_getElem? (i := 810) (by decide +kernel), List.mem_of_getElem? (i := 811) (by decide +kernel)⟩
theorem lw_p22 : lw_okq (⟨"NobodySaidModel", "isPerson", "(I)Z"⟩, 21) := ⟨⟨by decide +kernel, by decide +kernel⟩, List.mem_of_getElem? (i := 694) (by decide +kernel), List.mem_of_getElem? (i := 821) (by decide +kernel), List.mem_of_getElem? (i := 822) (by decide +kernel)⟩
theorem lw_p23 : lw_okq (⟨"NobodySaidModel", "isSaid", "(III)I"⟩, 21) := ⟨⟨by decide +kernel, by decide +kernel⟩, List.mem_of_getElem? (i := 694) (by decide +kernel), List.mem_of_getElem? (i := 825) (by decide +kernel), List.mem_of_getElem? (i := 826) (by decide +kernel)⟩
theorem lw_p24 : lw_okq (⟨"NobodySaidModel", "isBegun", "(II)V"⟩, 21) := ⟨⟨by decide +kernel, by decide +kernel⟩, List.mem_of_getElem? (i := 694) (by decide +kernel), List.mem_of_getElem? (i := 832) (by decide +kernel), List.mem_of_getElem? (i := 833) (by decide +kernel)⟩
theorem lw_p25 : lw_okq (⟨"NobodySaidModel", "told", "(II)I"⟩, 21) := ⟨⟨by decide +kernel, by decide +kernel⟩, List.mem_of_getElem? (i := 694) (by decide +kernel), List.mem_of_getElem? (i := 840) (by decide +kernel), List.mem_of_getElem? (i := 841) (by decide +kernel)⟩
theorem lw_p26 : lw_okq (⟨"NobodySaidModel", "heardBy", "(I)I"⟩, 21) := ⟨⟨by decide +kernel, by decide +kernel⟩, List.mem_of_getElem? (i := 694) (by decide +kernel), List.mem_of_getElem? (i := 844) (by decide +kernel), List.mem_of_getElem? (i := 845) (by decide +kernel)⟩
theorem lw_p27 : lw_okq (⟨"NobodySaidModel", "hasHeard", "(II)Z"⟩, 21) := ⟨⟨by decide +kernel, by decide +kernel⟩, List.mem_of_getElem? (i := 694) (by decide +kernel), List.mem_of_getElem? (i := 848) (by decide +kernel), List.mem_of_getElem? (i := 849) (by decide +kernel)⟩
theorem lw_p28 : lw_okq (⟨"NobodySaidModel", "sayingIs", "(II)I"⟩, 21) := ⟨⟨by decide +kernel, by decide +kernel⟩, List.mem_of_getElem? (i := 694) (by decide +kernel), List.mem_of_getElem? (i := 852) (by decide +kernel), List.mem_of_getElem? (i := 853) (by decide +kernel)⟩
theorem lw_p29 : lw_okq (⟨"NobodySaidModel", "personIs", "(II)I"⟩, 21) := ⟨⟨by decide +kernel, by decide +kernel⟩, List.mem_of_getElem? (i := 694) (by decide +kernel), List.mem_of_getElem? (i := 856) (by decide +kernel), List.mem_of_getElem? (i := 857) (by decide +kernel)⟩
theorem lw_p30 : lw_okq (⟨"NobodySaidModel", "isSaying", "(I)Z"⟩, 21) := ⟨⟨by decide +kernel, by decide +kernel⟩, List.mem_of_getElem? (i := 694) (by decide +kernel), List.mem_of_getElem? (i := 871) (by decide +kernel), List.mem_of_getElem? (i := 872) (by decide +kernel)⟩
theorem lw_p31 : lw_okq (⟨"NobodySaidModel", "tracedFrom", "(II)I"⟩, 21) := ⟨⟨by decide +kernel, by decide +kernel⟩, List.mem_of_getElem? (i := 694) (by decide +kernel), List.mem_of_getElem? (i := 888) (by decide +kernel), List.mem_of_getElem? (i := 889) (by decide +kernel)⟩
def lw_privs_2 : List (MethodName × Nat) := [(⟨"NobodySaid$Reader", "isNumber", "(I)Z"⟩, 4), (⟨"NobodySaid$Reader", "readTalk", "()Z"⟩, 4), (⟨"NobodySaid$Reader", "readPerson", "(I)Z"⟩, 4), (⟨"NobodySaidModel", "become", "(II)I"⟩, 21), (⟨"NobodySaidModel", "finding", "(I)I"⟩, 21), (⟨"NobodySaidModel", "comes", "(II)I"⟩, 21), (⟨"NobodySaidModel", "isPerson", "(I)Z"⟩, 21), (⟨"NobodySaidModel", "isSaid", "(III)I"⟩, 21), (⟨"NobodySaidModel", "isBegun", "(II)V"⟩, 21), (⟨"NobodySaidModel", "told", "(II)I"⟩, 21), (⟨"NobodySaidModel", "heardBy", "(I)I"⟩, 21), (⟨"NobodySaidModel", "hasHeard", "(II)Z"⟩, 21), (⟨"NobodySaidModel", "sayingIs", "(II)I"⟩, 21), (⟨"NobodySaidModel", "personIs", "(II)I"⟩, 21), (⟨"NobodySaidModel", "isSaying", "(I)Z"⟩, 21), (⟨"NobodySaidModel", "tracedFrom", "(II)I"⟩, 21)]
theorem lw_r2 : ∀ q ∈ lw_privs_2, lw_okq q := List.forall_mem_cons.mpr ⟨lw_p16, List.forall_mem_cons.mpr ⟨lw_p17, List.forall_mem_cons.mpr ⟨lw_p18, List.forall_mem_cons.mpr ⟨lw_p19, List.forall_mem_cons.mpr ⟨lw_p20, List.forall_mem_cons.mpr ⟨lw_p21, List.forall_mem_cons.mpr ⟨lw_p22, List.forall_mem_cons.mpr ⟨lw_p23, List.forall_mem_cons.mpr ⟨lw_p24, List.forall_mem_cons.mpr ⟨lw_p25, List.forall_mem_cons.mpr ⟨lw_p26, List.forall_mem_cons.mpr ⟨lw_p27, List.forall_mem_cons.mpr ⟨lw_p28, List.forall_mem_cons.mpr ⟨lw_p29, List.forall_mem_cons.mpr ⟨lw_p30, List.forall_mem_cons.mpr ⟨lw_p31, fun _ h => absurd h List.not_mem_nil⟩⟩⟩⟩⟩⟩⟩⟩⟩⟩⟩⟩⟩⟩⟩⟩
theorem lw_p32 : lw_okq (⟨"NobodySaidModel", "mayTalk", "(II)Z"⟩, 21) := ⟨⟨by decide +kernel, by decide +kernel⟩, List.mem_of_getElem? (i := 694) (by decide +kernel), List.mem_of_getElem? (i := 896) (by decide +kernel), List.mem_of_getElem? (i := 897) (by decide +kernel)⟩
theorem lw_p33 : lw_okq (⟨"NobodySaidModel", "talks", "(II)I"⟩, 21) := ⟨⟨by decide +kernel, by decide +kernel⟩, List.mem_of_getElem? (i := 694) (by decide +kernel), List.mem_of_getElem? (i := 900) (by decide +kernel), List.mem_of_getElem? (i := 901) (by decide +kernel)⟩
theorem lw_p34 : lw_okq (⟨"NobodySaidModel", "tells", "(III)Z"⟩, 21) := ⟨⟨by decide +kernel, by decide +kernel⟩, List.mem_of_getElem? (i := 694) (by decide +kernel), List.mem_of_getElem? (i := 904) (by decide +kernel), List.mem_of_getElem? (i := 905) (by decide +kernel)⟩
theorem lw_p35 : lw_okq (⟨"NobodySaidModel", "believes", "(II)Z"⟩, 21) := ⟨⟨by decide +kernel, by decide +kernel⟩, List.mem_of_getElem? (i := 694) (by decide +kernel), List.mem_of_getElem? (i := 908) (by decide +kernel), List.mem_of_getElem? (i := 909) (by decide +kernel)⟩
theorem lw_p36 : lw_okq (⟨"NobodySaidModel", "names", "(II)I"⟩, 21) := ⟨⟨by decide +kernel, by decide +kernel⟩, List.mem_of_getElem? (i := 694) (by decide +kernel), List.mem_of_getElem? (i := 912) (by decide +kernel), List.mem_of_getElem? (i := 913) (by decide +kernel)⟩
theorem lw_p37 : lw_okq (⟨"NobodySaidModel", "daysGo", "(I)V"⟩, 21) := ⟨⟨by decide +kernel, by decide +kernel⟩, List.mem_of_getElem? (i := 694) (by decide +kernel), List.mem_of_getElem? (i := 922) (by decide +kernel), List.mem_of_getElem? (i := 923) (by decide +kernel)⟩
theorem lw_p38 : lw_okq (⟨"NobodySaidModel", "day", "()V"⟩, 21) := ⟨⟨by decide +kernel, by decide +kernel⟩, List.mem_of_getElem? (i := 694) (by decide +kernel), List.mem_of_getElem? (i := 926) (by decide +kernel), List.mem_of_getElem? (i := 927) (by decide +kernel)⟩
theorem lw_p39 : lw_okq (⟨"NobodySaidModel", "placeNow", "()I"⟩, 21) := ⟨⟨by decide +kernel, by decide +kernel⟩, List.mem_of_getElem? (i := 694) (by decide +kernel), List.mem_of_getElem? (i := 930) (by decide +kernel), List.mem_of_getElem? (i := 931) (by decide +kernel)⟩
theorem lw_p40 : lw_okq (⟨"NobodySaidModel", "trial", "(I)V"⟩, 21) := ⟨⟨by decide +kernel, by decide +kernel⟩, List.mem_of_getElem? (i := 694) (by decide +kernel), List.mem_of_getElem? (i := 934) (by decide +kernel), List.mem_of_getElem? (i := 935) (by decide +kernel)⟩
theorem lw_p41 : lw_okq (⟨"NobodySaidModel", "theNobody", "()I"⟩, 21) := ⟨⟨by decide +kernel, by decide +kernel⟩, List.mem_of_getElem? (i := 694) (by decide +kernel), List.mem_of_getElem? (i := 941) (by decide +kernel), List.mem_of_getElem? (i := 942) (by decide +kernel)⟩
theorem lw_p42 : lw_okq (⟨"NobodySaidModel", "more", "(III)V"⟩, 21) := ⟨⟨by decide +kernel, by decide +kernel⟩, List.mem_of_getElem? (i := 694) (by decide +kernel), List.mem_of_getElem? (i := 945) (by decide +kernel), List.mem_of_getElem? (i := 946) (by decide +kernel)⟩
theorem lw_p43 : lw_okq (⟨"NobodySaidModel", "pays", "(II)I"⟩, 21) := ⟨⟨by decide +kernel, by decide +kernel⟩, List.mem_of_getElem? (i := 694) (by decide +kernel), List.mem_of_getElem? (i := 950) (by decide +kernel), List.mem_of_getElem? (i := 951) (by decide +kernel)⟩
theorem lw_p44 : lw_okq (⟨"NobodySaidModel", "heardInAll", "()I"⟩, 21) := ⟨⟨by decide +kernel, by decide +kernel⟩, List.mem_of_getElem? (i := 694) (by decide +kernel), List.mem_of_getElem? (i := 958) (by decide +kernel), List.mem_of_getElem? (i := 959) (by decide +kernel)⟩
theorem lw_p45 : lw_okq (⟨"NobodySaidModel", "commonOnes", "()I"⟩, 21) := ⟨⟨by decide +kernel, by decide +kernel⟩, List.mem_of_getElem? (i := 694) (by decide +kernel), List.mem_of_getElem? (i := 965) (by decide +kernel), List.mem_of_getElem? (i := 966) (by decide +kernel)⟩
theorem lw_p46 : lw_okq (⟨"NobodySaidModel", "allHeard", "(I)Z"⟩, 21) := ⟨⟨by decide +kernel, by decide +kernel⟩, List.mem_of_getElem? (i := 694) (by decide +kernel), List.mem_of_getElem? (i := 969) (by decide +kernel), List.mem_of_getElem? (i := 970) (by decide +kernel)⟩
theorem lw_p47 : lw_okq (⟨"NobodySaidModel", "blamedInAll", "()I"⟩, 21) := ⟨⟨by decide +kernel, by decide +kernel⟩, List.mem_of_getElem? (i := 694) (by decide +kernel), List.mem_of_getElem? (i := 973) (by decide +kernel), List.mem_of_getElem? (i := 974) (by decide +kernel)⟩
def lw_privs_3 : List (MethodName × Nat) := [(⟨"NobodySaidModel", "mayTalk", "(II)Z"⟩, 21), (⟨"NobodySaidModel", "talks", "(II)I"⟩, 21), (⟨"NobodySaidModel", "tells", "(III)Z"⟩, 21), (⟨"NobodySaidModel", "believes", "(II)Z"⟩, 21), (⟨"NobodySaidModel", "names", "(II)I"⟩, 21), (⟨"NobodySaidModel", "daysGo", "(I)V"⟩, 21), (⟨"NobodySaidModel", "day", "()V"⟩, 21), (⟨"NobodySaidModel", "placeNow", "()I"⟩, 21), (⟨"NobodySaidModel", "trial", "(I)V"⟩, 21), (⟨"NobodySaidModel", "theNobody", "()I"⟩, 21), (⟨"NobodySaidModel", "more", "(III)V"⟩, 21), (⟨"NobodySaidModel", "pays", "(II)I"⟩, 21), (⟨"NobodySaidModel", "heardInAll", "()I"⟩, 21), (⟨"NobodySaidModel", "commonOnes", "()I"⟩, 21), (⟨"NobodySaidModel", "allHeard", "(I)Z"⟩, 21), (⟨"NobodySaidModel", "blamedInAll", "()I"⟩, 21)]
theorem lw_r3 : ∀ q ∈ lw_privs_3, lw_okq q := List.forall_mem_cons.mpr ⟨lw_p32, List.forall_mem_cons.mpr ⟨lw_p33, List.forall_mem_cons.mpr ⟨lw_p34, List.forall_mem_cons.mpr ⟨lw_p35, List.forall_mem_cons.mpr ⟨lw_p36, List.forall_mem_cons.mpr ⟨lw_p37, List.forall_mem_cons.mpr ⟨lw_p38, List.forall_mem_cons.mpr ⟨lw_p39, List.forall_mem_cons.mpr ⟨lw_p40, List.forall_mem_cons.mpr ⟨lw_p41, List.forall_mem_cons.mpr ⟨lw_p42, List.forall_mem_cons.mpr ⟨lw_p43, List.forall_mem_cons.mpr ⟨lw_p44, List.forall_mem_cons.mpr ⟨lw_p45, List.forall_mem_cons.mpr ⟨lw_p46, List.forall_mem_cons.mpr ⟨lw_p47, fun _ h => absurd h List.not_mem_nil⟩⟩⟩⟩⟩⟩⟩⟩⟩⟩⟩⟩⟩⟩⟩⟩
theorem lw_p48 : lw_okq (⟨"NobodySaidModel", "blamedMost", "()I"⟩, 21) := ⟨⟨by decide +kernel, by decide +kernel⟩, List.mem_of_getElem? (i := 694) (by decide +kernel), List.mem_of_getElem? (i := 977) (by decide +kernel), List.mem_of_getElem? (i := 978) (by decide +kernel)⟩
theorem lw_p49 : lw_okq (⟨"NobodySaidModel", "deafOnes", "()I"⟩, 21) := ⟨⟨by decide +kernel, by decide +kernel⟩, List.mem_of_getElem? (i := 694) (by decide +kernel), List.mem_of_getElem? (i := 981) (by decide +kernel), List.mem_of_getElem? (i := 982) (by decide +kernel)⟩
theorem lw_p50 : lw_okq (⟨"NobodySaidModel", "fromNobody", "()I"⟩, 21) := ⟨⟨by decide +kernel, by decide +kernel⟩, List.mem_of_getElem? (i := 694) (by decide +kernel), List.mem_of_getElem? (i := 985) (by decide +kernel), List.mem_of_getElem? (i := 986) (by decide +kernel)⟩
theorem lw_p51 : lw_okq (⟨"NobodySaidModel", "putBack", "(I)I"⟩, 21) := ⟨⟨by decide +kernel, by decide +kernel⟩, List.mem_of_getElem? (i := 694) (by decide +kernel), List.mem_of_getElem? (i := 996) (by decide +kernel), List.mem_of_getElem? (i := 997) (by decide +kernel)⟩
theorem lw_p52 : lw_okq (⟨"NobodySaidModel", "behind", "(II)I"⟩, 21) := ⟨⟨by decide +kernel, by decide +kernel⟩, List.mem_of_getElem? (i := 694) (by decide +kernel), List.mem_of_getElem? (i := 1004) (by decide +kernel), List.mem_of_getElem? (i := 1005) (by decide +kernel)⟩
theorem lw_p53 : lw_okq (⟨"NobodySaidModel", "orNone", "(I)I"⟩, 21) := ⟨⟨by decide +kernel, by decide +kernel⟩, List.mem_of_getElem? (i := 694) (by decide +kernel), List.mem_of_getElem? (i := 1012) (by decide +kernel), List.mem_of_getElem? (i := 1013) (by decide +kernel)⟩
theorem lw_p54 : lw_okq (⟨"NobodySaidModel", "daysTo", "(II)I"⟩, 21) := ⟨⟨by decide +kernel, by decide +kernel⟩, List.mem_of_getElem? (i := 694) (by decide +kernel), List.mem_of_getElem? (i := 1020) (by decide +kernel), List.mem_of_getElem? (i := 1021) (by decide +kernel)⟩
theorem lw_p55 : lw_okq (⟨"NobodySaidModel", "spreadBy", "(III)I"⟩, 21) := ⟨⟨by decide +kernel, by decide +kernel⟩, List.mem_of_getElem? (i := 694) (by decide +kernel), List.mem_of_getElem? (i := 1035) (by decide +kernel), List.mem_of_getElem? (i := 1036) (by decide +kernel)⟩
theorem lw_p56 : lw_okq (⟨"NobodySaidModel", "staysAway", "(IIII)Z"⟩, 21) := ⟨⟨by decide +kernel, by decide +kernel⟩, List.mem_of_getElem? (i := 694) (by decide +kernel), List.mem_of_getElem? (i := 1055) (by decide +kernel), List.mem_of_getElem? (i := 1056) (by decide +kernel)⟩
theorem lw_p57 : lw_okq (⟨"NobodySaidModel", "lacks", "(IZ)I"⟩, 21) := ⟨⟨by decide +kernel, by decide +kernel⟩, List.mem_of_getElem? (i := 694) (by decide +kernel), List.mem_of_getElem? (i := 1063) (by decide +kernel), List.mem_of_getElem? (i := 1064) (by decide +kernel)⟩
theorem lw_p58 : lw_okq (⟨"NobodySaidModel", "isSo", "(III)Z"⟩, 21) := ⟨⟨by decide +kernel, by decide +kernel⟩, List.mem_of_getElem? (i := 694) (by decide +kernel), List.mem_of_getElem? (i := 1071) (by decide +kernel), List.mem_of_getElem? (i := 1072) (by decide +kernel)⟩
theorem lw_p59 : lw_okq (⟨"NobodySaidModel", "drawn", "()I"⟩, 21) := ⟨⟨by decide +kernel, by decide +kernel⟩, List.mem_of_getElem? (i := 694) (by decide +kernel), List.mem_of_getElem? (i := 1083) (by decide +kernel), List.mem_of_getElem? (i := 1084) (by decide +kernel)⟩
theorem lw_p60 : lw_okq (⟨"NobodySaidModel", "token", "()V"⟩, 21) := ⟨⟨by decide +kernel, by decide +kernel⟩, List.mem_of_getElem? (i := 694) (by decide +kernel), List.mem_of_getElem? (i := 1108) (by decide +kernel), List.mem_of_getElem? (i := 1109) (by decide +kernel)⟩
theorem lw_p61 : lw_okq (⟨"NobodySaidModel", "byteAt", "(I)I"⟩, 21) := ⟨⟨by decide +kernel, by decide +kernel⟩, List.mem_of_getElem? (i := 694) (by decide +kernel), List.mem_of_getElem? (i := 1112) (by decide +kernel), List.mem_of_getElem? (i := 1113) (by decide +kernel)⟩
theorem lw_p62 : lw_okq (⟨"NobodySaidModel", "readItem", "()V"⟩, 21) := ⟨⟨by decide +kernel, by decide +kernel⟩, List.mem_of_getElem? (i := 694) (by decide +kernel), List.mem_of_getElem? (i := 1116) (by decide +kernel), List.mem_of_getElem? (i := 1117) (by decide +kernel)⟩
theorem lw_p63 : lw_okq (⟨"NobodySaidModel", "isWord", "(Ljava/lang/String;)Z"⟩, 21) := ⟨⟨by decide +kernel, by decide +kernel⟩, List.mem_of_getElem? (i := 694) (by decide +kernel), List.mem_of_getElem? (i := 1120) (by decide +kernel), List.mem_of_getElem? (i := 1121) (by decide +kernel)⟩
def lw_privs_4 : List (MethodName × Nat) := [(⟨"NobodySaidModel", "blamedMost", "()I"⟩, 21), (⟨"NobodySaidModel", "deafOnes", "()I"⟩, 21), (⟨"NobodySaidModel", "fromNobody", "()I"⟩, 21), (⟨"NobodySaidModel", "putBack", "(I)I"⟩, 21), (⟨"NobodySaidModel", "behind", "(II)I"⟩, 21), (⟨"NobodySaidModel", "orNone", "(I)I"⟩, 21), (⟨"NobodySaidModel", "daysTo", "(II)I"⟩, 21), (⟨"NobodySaidModel", "spreadBy", "(III)I"⟩, 21), (⟨"NobodySaidModel", "staysAway", "(IIII)Z"⟩, 21), (⟨"NobodySaidModel", "lacks", "(IZ)I"⟩, 21), (⟨"NobodySaidModel", "isSo", "(III)Z"⟩, 21), (⟨"NobodySaidModel", "drawn", "()I"⟩, 21), (⟨"NobodySaidModel", "token", "()V"⟩, 21), (⟨"NobodySaidModel", "byteAt", "(I)I"⟩, 21), (⟨"NobodySaidModel", "readItem", "()V"⟩, 21), (⟨"NobodySaidModel", "isWord", "(Ljava/lang/String;)Z"⟩, 21)]
theorem lw_r4 : ∀ q ∈ lw_privs_4, lw_okq q := List.forall_mem_cons.mpr ⟨lw_p48, List.forall_mem_cons.mpr ⟨lw_p49, List.forall_mem_cons.mpr ⟨lw_p50, List.forall_mem_cons.mpr ⟨lw_p51, List.forall_mem_cons.mpr ⟨lw_p52, List.forall_mem_cons.mpr ⟨lw_p53, List.forall_mem_cons.mpr ⟨lw_p54, List.forall_mem_cons.mpr ⟨lw_p55, List.forall_mem_cons.mpr ⟨lw_p56, List.forall_mem_cons.mpr ⟨lw_p57, List.forall_mem_cons.mpr ⟨lw_p58, List.forall_mem_cons.mpr ⟨lw_p59, List.forall_mem_cons.mpr ⟨lw_p60, List.forall_mem_cons.mpr ⟨lw_p61, List.forall_mem_cons.mpr ⟨lw_p62, List.forall_mem_cons.mpr ⟨lw_p63, fun _ h => absurd h List.not_mem_nil⟩⟩⟩⟩⟩⟩⟩⟩⟩⟩⟩⟩⟩⟩⟩⟩
theorem lw_p64 : lw_okq (⟨"NobodySaidModel", "readPerson", "(I)V"⟩, 21) := ⟨⟨by decide +kernel, by decide +kernel⟩, List.mem_of_getElem? (i := 694) (by decide +kernel), List.mem_of_getElem? (i := 1126) (by decide +kernel), List.mem_of_getElem? (i := 1127) (by decide +kernel)⟩
theorem lw_p65 : lw_okq (⟨"NobodySaidModel", "must", "(Z)V"⟩, 21) := ⟨⟨by decide +kernel, by decide +kernel⟩, List.mem_of_getElem? (i := 694) (by decide +kernel), List.mem_of_getElem? (i := 1130) (by decide +kernel), List.mem_of_getElem? (i := 1131) (by decide +kernel)⟩
theorem lw_p66 : lw_okq (⟨"NobodySaidModel", "takesWord", "(Ljava/lang/String;)Z"⟩, 21) := ⟨⟨by decide +kernel, by decide +kernel⟩, List.mem_of_getElem? (i := 694) (by decide +kernel), List.mem_of_getElem? (i := 1135) (by decide +kernel), List.mem_of_getElem? (i := 1136) (by decide +kernel)⟩
theorem lw_p67 : lw_okq (⟨"NobodySaidModel", "number", "(II)I"⟩, 21) := ⟨⟨by decide +kernel, by decide +kernel⟩, List.mem_of_getElem? (i := 694) (by decide +kernel), List.mem_of_getElem? (i := 1139) (by decide +kernel), List.mem_of_getElem? (i := 1140) (by decide +kernel)⟩
theorem lw_p68 : lw_okq (⟨"NobodySaidModel", "addItem", "(IIII)V"⟩, 21) := ⟨⟨by decide +kernel, by decide +kernel⟩, List.mem_of_getElem? (i := 694) (by decide +kernel), List.mem_of_getElem? (i := 1144) (by decide +kernel), List.mem_of_getElem? (i := 1145) (by decide +kernel)⟩
theorem lw_p69 : lw_okq (⟨"NobodySaidModel", "readSaying", "()V"⟩, 21) := ⟨⟨by decide +kernel, by decide +kernel⟩, List.mem_of_getElem? (i := 694) (by decide +kernel), List.mem_of_getElem? (i := 1149) (by decide +kernel), List.mem_of_getElem? (i := 1150) (by decide +kernel)⟩
theorem lw_p70 : lw_okq (⟨"NobodySaidModel", "isToldSo", "(I)V"⟩, 21) := ⟨⟨by decide +kernel, by decide +kernel⟩, List.mem_of_getElem? (i := 694) (by decide +kernel), List.mem_of_getElem? (i := 1154) (by decide +kernel), List.mem_of_getElem? (i := 1155) (by decide +kernel)⟩
def lw_privs_5 : List (MethodName × Nat) := [(⟨"NobodySaidModel", "readPerson", "(I)V"⟩, 21), (⟨"NobodySaidModel", "must", "(Z)V"⟩, 21), (⟨"NobodySaidModel", "takesWord", "(Ljava/lang/String;)Z"⟩, 21), (⟨"NobodySaidModel", "number", "(II)I"⟩, 21), (⟨"NobodySaidModel", "addItem", "(IIII)V"⟩, 21), (⟨"NobodySaidModel", "readSaying", "()V"⟩, 21), (⟨"NobodySaidModel", "isToldSo", "(I)V"⟩, 21)]
theorem lw_r5 : ∀ q ∈ lw_privs_5, lw_okq q := List.forall_mem_cons.mpr ⟨lw_p64, List.forall_mem_cons.mpr ⟨lw_p65, List.forall_mem_cons.mpr ⟨lw_p66, List.forall_mem_cons.mpr ⟨lw_p67, List.forall_mem_cons.mpr ⟨lw_p68, List.forall_mem_cons.mpr ⟨lw_p69, List.forall_mem_cons.mpr ⟨lw_p70, fun _ h => absurd h List.not_mem_nil⟩⟩⟩⟩⟩⟩⟩
def lw_privs : List (MethodName × Nat) := lw_privs_1 ++ (lw_privs_2 ++ (lw_privs_3 ++ (lw_privs_4 ++ (lw_privs_5))))
def lw_tbl : List Cond := k2_sels lw_privs ++ tables_1
theorem lw_privs_ok : ∀ q ∈ lw_privs, lw_okq q := by
  show ∀ q ∈ lw_privs_1 ++ (lw_privs_2 ++ (lw_privs_3 ++ (lw_privs_4 ++ (lw_privs_5)))), lw_okq q
  exact List.forall_mem_append.mpr ⟨lw_r1, List.forall_mem_append.mpr ⟨lw_r2, List.forall_mem_append.mpr ⟨lw_r3, List.forall_mem_append.mpr ⟨lw_r4, lw_r5⟩⟩⟩⟩
end
section
abbrev sg_M : Type := String × ByteArray × Nat × Option FieldType
def RX0 : String := "NobodySaid$Reader"
def TX0 : u_T := fun k => match k with
  | 0 => ("NobodySaid$Reader", "tape", "LNobodySaid$Tape;", true)
  | 1 => ("NobodySaid$Reader", "town", "LNobodySaid$Town;", true)
  | 2 => ("NobodySaid$Reader", "told", "[I", true)
  | _ => ("NobodySaid$Reader", "at", "I", false)
def tyX0 : Nat → FieldType := fun k => match k with
  | 0 => .object "NobodySaid$Tape"
  | 1 => .object "NobodySaid$Town"
  | 2 => .array .int
  | _ => .int
abbrev wsX00 : List Cond := u_ws RX0 TX0 4
theorem nmX0 : ∀ a, a < 4 → ∀ b, b < 4 → a ≠ b → (TX0 a).2.1 ≠ (TX0 b).2.1 := by decide +kernel
theorem tyX0_ok : ∀ k, k < 4 → parseFieldDescriptor (TX0 k).2.2.1 = some (tyX0 k) := by decide +kernel
def yX0_init : MethodName := ⟨RX0, "<init>", "()V"⟩
def mX0_init : sg_M := (RX0, prog_2_method_1_code, 1, none)
def yX0_readTape : MethodName := ⟨RX0, "readTape", "()I"⟩
def mX0_readTape : sg_M := (RX0, prog_2_method_2_code, 2, (some .int))
def yX0_step : MethodName := ⟨RX0, "step", "()V"⟩
def mX0_step : sg_M := (RX0, prog_2_method_3_code, 1, none)
def yX0_isWord : MethodName := ⟨RX0, "isWord", "(I)Z"⟩
def mX0_isWord : sg_M := (RX0, prog_2_method_4_code, 2, (some .boolean))
def yX0_isNumber : MethodName := ⟨RX0, "isNumber", "(I)Z"⟩
def mX0_isNumber : sg_M := (RX0, prog_2_method_5_code, 2, (some .boolean))
def yX0_readItem : MethodName := ⟨RX0, "readItem", "()Z"⟩
def mX0_readItem : sg_M := (RX0, prog_2_method_6_code, 2, (some .boolean))
def yX0_readPerson : MethodName := ⟨RX0, "readPerson", "(I)Z"⟩
def mX0_readPerson : sg_M := (RX0, prog_2_method_7_code, 4, (some .boolean))
def yX0_readSaying : MethodName := ⟨RX0, "readSaying", "()Z"⟩
def mX0_readSaying : sg_M := (RX0, prog_2_method_8_code, 1, (some .boolean))
def yX0_readTalk : MethodName := ⟨RX0, "readTalk", "()Z"⟩
def mX0_readTalk : sg_M := (RX0, prog_2_method_9_code, 1, (some .boolean))
def yX0_readNumbers : MethodName := ⟨RX0, "readNumbers", "(III)Z"⟩
def mX0_readNumbers : sg_M := (RX0, prog_2_method_10_code, 6, (some .boolean))
def RX1 : String := "NobodySaid$Sheet"
def TX1 : u_T := fun k => match k with
  | 0 => ("NobodySaid$Sheet", "numbers", "[I", true)
  | 1 => ("NobodySaid$Sheet", "bits", "I", false)
  | _ => ("NobodySaid$Sheet", "size", "I", false)
def tyX1 : Nat → FieldType := fun k => match k with
  | 0 => .array .int
  | 1 => .int
  | _ => .int
abbrev wsX10 : List Cond := u_ws RX1 TX1 3
theorem nmX1 : ∀ a, a < 3 → ∀ b, b < 3 → a ≠ b → (TX1 a).2.1 ≠ (TX1 b).2.1 := by decide +kernel
theorem tyX1_ok : ∀ k, k < 3 → parseFieldDescriptor (TX1 k).2.2.1 = some (tyX1 k) := by decide +kernel
def yX1_init : MethodName := ⟨RX1, "<init>", "()V"⟩
def mX1_init : sg_M := (RX1, prog_3_method_1_code, 1, none)
def yX1_renew : MethodName := ⟨RX1, "renew", "(II)V"⟩
def mX1_renew : sg_M := (RX1, prog_3_method_2_code, 3, none)
def yX1_put : MethodName := ⟨RX1, "put", "(II)V"⟩
def mX1_put : sg_M := (RX1, prog_3_method_3_code, 3, none)
def yX1_has : MethodName := ⟨RX1, "has", "(II)Z"⟩
def mX1_has : sg_M := (RX1, prog_3_method_4_code, 3, (some .boolean))
def yX1_allows : MethodName := ⟨RX1, "allows", "(II)Z"⟩
def mX1_allows : sg_M := (RX1, prog_3_method_5_code, 3, (some .boolean))
def RX2 : String := "NobodySaid$Tape"
def TX2 : u_T := fun k => match k with
  | 0 => ("NobodySaid$Tape", "bytes", "[I", true)
  | 1 => ("NobodySaid$Tape", "size", "I", false)
  | 2 => ("NobodySaid$Tape", "tokens", "[I", true)
  | 3 => ("NobodySaid$Tape", "starts", "[I", true)
  | _ => ("NobodySaid$Tape", "values", "[I", true)
def tyX2 : Nat → FieldType := fun k => match k with
  | 0 => .array .int
  | 1 => .int
  | 2 => .array .int
  | 3 => .array .int
  | _ => .array .int
abbrev wsX20 : List Cond := u_ws RX2 TX2 5
theorem nmX2 : ∀ a, a < 5 → ∀ b, b < 5 → a ≠ b → (TX2 a).2.1 ≠ (TX2 b).2.1 := by decide +kernel
theorem tyX2_ok : ∀ k, k < 5 → parseFieldDescriptor (TX2 k).2.2.1 = some (tyX2 k) := by decide +kernel
def yX2_init : MethodName := ⟨RX2, "<init>", "()V"⟩
def mX2_init : sg_M := (RX2, prog_4_method_1_code, 1, none)
def yX2_append : MethodName := ⟨RX2, "append", "(I)V"⟩
def mX2_append : sg_M := (RX2, prog_4_method_2_code, 2, none)
def yX2_cut : MethodName := ⟨RX2, "cut", "()V"⟩
def mX2_cut : sg_M := (RX2, prog_4_method_3_code, 3, none)
def yX2_goesOn : MethodName := ⟨RX2, "goesOn", "(I)Z"⟩
def mX2_goesOn : sg_M := (RX2, prog_4_method_4_code, 2, (some .boolean))
def yX2_tokenEnd : MethodName := ⟨RX2, "tokenEnd", "(I)I"⟩
def mX2_tokenEnd : sg_M := (RX2, prog_4_method_5_code, 3, (some .int))
def yX2_keepToken : MethodName := ⟨RX2, "keepToken", "(III)V"⟩
def mX2_keepToken : sg_M := (RX2, prog_4_method_6_code, 4, none)
def yX2_worth : MethodName := ⟨RX2, "worth", "(II)I"⟩
def mX2_worth : sg_M := (RX2, prog_4_method_7_code, 5, (some .int))
def yX2_wordNumber : MethodName := ⟨RX2, "wordNumber", "(II)I"⟩
def mX2_wordNumber : sg_M := (RX2, prog_4_method_8_code, 6, (some .int))
def yX2_isAlike : MethodName := ⟨RX2, "isAlike", "(III)Z"⟩
def mX2_isAlike : sg_M := (RX2, prog_4_method_9_code, 5, (some .boolean))
def yX2_isLetter : MethodName := ⟨RX2, "isLetter", "(I)Z"⟩
def mX2_isLetter : sg_M := (RX2, prog_4_method_10_code, 1, (some .boolean))
def yX2_isDigit : MethodName := ⟨RX2, "isDigit", "(I)Z"⟩
def mX2_isDigit : sg_M := (RX2, prog_4_method_11_code, 1, (some .boolean))
def RX3 : String := "NobodySaid$Town"
def TX3 : u_T := fun k => match k with
  | 0 => ("NobodySaid$Town", "list", "[I", true)
  | 1 => ("NobodySaid$Town", "kind", "[I", true)
  | 2 => ("NobodySaid$Town", "trust", "[I", true)
  | 3 => ("NobodySaid$Town", "quiet", "[I", true)
  | 4 => ("NobodySaid$Town", "blamed", "[I", true)
  | 5 => ("NobodySaid$Town", "about", "[I", true)
  | 6 => ("NobodySaid$Town", "weight", "[I", true)
  | 7 => ("NobodySaid$Town", "heard", "[I", true)
  | 8 => ("NobodySaid$Town", "sources", "[I", true)
  | 9 => ("NobodySaid$Town", "spots", "[I", true)
  | 10 => ("NobodySaid$Town", "people", "I", false)
  | 11 => ("NobodySaid$Town", "sayings", "I", false)
  | 12 => ("NobodySaid$Town", "fund", "I", false)
  | 13 => ("NobodySaid$Town", "day", "I", false)
  | _ => ("NobodySaid$Town", "z", "I", false)
def tyX3 : Nat → FieldType := fun k => match k with
  | 0 => .array .int
  | 1 => .array .int
  | 2 => .array .int
  | 3 => .array .int
  | 4 => .array .int
  | 5 => .array .int
  | 6 => .array .int
  | 7 => .array .int
  | 8 => .array .int
  | 9 => .array .int
  | 10 => .int
  | 11 => .int
  | 12 => .int
  | 13 => .int
  | _ => .int
abbrev wsX30 : List Cond := u_ws RX3 TX3 15
theorem nmX3 : ∀ a, a < 15 → ∀ b, b < 15 → a ≠ b → (TX3 a).2.1 ≠ (TX3 b).2.1 := by decide +kernel
theorem tyX3_ok : ∀ k, k < 15 → parseFieldDescriptor (TX3 k).2.2.1 = some (tyX3 k) := by decide +kernel
def yX3_init : MethodName := ⟨RX3, "<init>", "()V"⟩
def mX3_init : sg_M := (RX3, prog_5_method_1_code, 1, none)
def yX3_become : MethodName := ⟨RX3, "become", "(LNobodySaid$Town;)V"⟩
def mX3_become : sg_M := (RX3, prog_5_method_2_code, 2, none)
def yX3_isPerson : MethodName := ⟨RX3, "isPerson", "(I)Z"⟩
def mX3_isPerson : sg_M := (RX3, prog_5_method_3_code, 2, (some .boolean))
def yX3_isSaying : MethodName := ⟨RX3, "isSaying", "(I)Z"⟩
def mX3_isSaying : sg_M := (RX3, prog_5_method_4_code, 2, (some .boolean))
def yX3_settle : MethodName := ⟨RX3, "settle", "(III)I"⟩
def mX3_settle : sg_M := (RX3, prog_5_method_5_code, 5, (some .int))
def yX3_putAbout : MethodName := ⟨RX3, "putAbout", "(III)I"⟩
def mX3_putAbout : sg_M := (RX3, prog_5_method_6_code, 5, (some .int))
def yX3_begin : MethodName := ⟨RX3, "begin", "(II)V"⟩
def mX3_begin : sg_M := (RX3, prog_5_method_7_code, 3, none)
def yX3_hasHeard : MethodName := ⟨RX3, "hasHeard", "(II)Z"⟩
def mX3_hasHeard : sg_M := (RX3, prog_5_method_8_code, 3, (some .boolean))
def yX3_source : MethodName := ⟨RX3, "source", "(II)I"⟩
def mX3_source : sg_M := (RX3, prog_5_method_9_code, 3, (some .int))
def yX3_everybody : MethodName := ⟨RX3, "everybody", "()I"⟩
def mX3_everybody : sg_M := (RX3, prog_5_method_10_code, 1, (some .int))
def yX3_silence : MethodName := ⟨RX3, "silence", "(I)V"⟩
def mX3_silence : sg_M := (RX3, prog_5_method_11_code, 3, none)
def yX3_listToday : MethodName := ⟨RX3, "listToday", "(II)V"⟩
def mX3_listToday : sg_M := (RX3, prog_5_method_12_code, 3, none)
def yX3_wouldTell : MethodName := ⟨RX3, "wouldTell", "(III)Z"⟩
def mX3_wouldTell : sg_M := (RX3, prog_5_method_13_code, 4, (some .boolean))
def yX3_wouldBelieve : MethodName := ⟨RX3, "wouldBelieve", "(III)Z"⟩
def mX3_wouldBelieve : sg_M := (RX3, prog_5_method_14_code, 5, (some .boolean))
def yX3_whomNames : MethodName := ⟨RX3, "whomNames", "(II)I"⟩
def mX3_whomNames : sg_M := (RX3, prog_5_method_15_code, 3, (some .int))
def yX3_payment : MethodName := ⟨RX3, "payment", "(II)I"⟩
def mX3_payment : sg_M := (RX3, prog_5_method_16_code, 3, (some .int))
def yX3_passOn : MethodName := ⟨RX3, "passOn", "(II)I"⟩
def mX3_passOn : sg_M := (RX3, prog_5_method_17_code, 5, (some .int))
def yX3_trace : MethodName := ⟨RX3, "trace", "(II)I"⟩
def mX3_trace : sg_M := (RX3, prog_5_method_18_code, 6, (some .int))
def yX3_passDays : MethodName := ⟨RX3, "passDays", "(I)V"⟩
def mX3_passDays : sg_M := (RX3, prog_5_method_19_code, 3, none)
def yX3_passDay : MethodName := ⟨RX3, "passDay", "()V"⟩
def mX3_passDay : sg_M := (RX3, prog_5_method_20_code, 4, none)
def yX3_holdTrial : MethodName := ⟨RX3, "holdTrial", "(I)V"⟩
def mX3_holdTrial : sg_M := (RX3, prog_5_method_21_code, 3, none)
def yX3_lastHearer : MethodName := ⟨RX3, "lastHearer", "(I)I"⟩
def mX3_lastHearer : sg_M := (RX3, prog_5_method_22_code, 3, (some .int))
def yX3_mrNobody : MethodName := ⟨RX3, "mrNobody", "()I"⟩
def mX3_mrNobody : sg_M := (RX3, prog_5_method_23_code, 2, (some .int))
def yX3_heardBy : MethodName := ⟨RX3, "heardBy", "(I)I"⟩
def mX3_heardBy : sg_M := (RX3, prog_5_method_24_code, 4, (some .int))
def yX3_hearings : MethodName := ⟨RX3, "hearings", "()I"⟩
def mX3_hearings : sg_M := (RX3, prog_5_method_25_code, 3, (some .int))
def yX3_knownToAll : MethodName := ⟨RX3, "knownToAll", "()I"⟩
def mX3_knownToAll : sg_M := (RX3, prog_5_method_26_code, 3, (some .int))
def yX3_blames : MethodName := ⟨RX3, "blames", "()I"⟩
def mX3_blames : sg_M := (RX3, prog_5_method_27_code, 3, (some .int))
def yX3_mostBlamed : MethodName := ⟨RX3, "mostBlamed", "()I"⟩
def mX3_mostBlamed : sg_M := (RX3, prog_5_method_28_code, 4, (some .int))
def yX3_innocent : MethodName := ⟨RX3, "innocent", "()I"⟩
def mX3_innocent : sg_M := (RX3, prog_5_method_29_code, 3, (some .int))
def yX3_untraceable : MethodName := ⟨RX3, "untraceable", "()I"⟩
def mX3_untraceable : sg_M := (RX3, prog_5_method_30_code, 3, (some .int))
def yX3_draw : MethodName := ⟨RX3, "draw", "()I"⟩
def mX3_draw : sg_M := (RX3, prog_5_method_31_code, 1, (some .int))
def yX3_spotsHeld : MethodName := ⟨RX3, "spotsHeld", "()I"⟩
def mX3_spotsHeld : sg_M := (RX3, prog_5_method_32_code, 3, (some .int))
def RX4 : String := "NobodySaid"
def TX4 : u_T := fun k => match k with
  | 0 => ("NobodySaid", "town", "LNobodySaid$Town;", true)
  | 1 => ("NobodySaid", "guess", "LNobodySaid$Town;", true)
  | 2 => ("NobodySaid", "kept", "LNobodySaid$Town;", true)
  | 3 => ("NobodySaid", "keeps", "Z", false)
  | 4 => ("NobodySaid", "reader", "LNobodySaid$Reader;", true)
  | 5 => ("NobodySaid", "sheets", "[LNobodySaid$Sheet;", true)
  | _ => ("NobodySaid", "found", "[I", true)
def tyX4 : Nat → FieldType := fun k => match k with
  | 0 => .object "NobodySaid$Town"
  | 1 => .object "NobodySaid$Town"
  | 2 => .object "NobodySaid$Town"
  | 3 => .boolean
  | 4 => .object "NobodySaid$Reader"
  | 5 => .array (.object "NobodySaid$Sheet")
  | _ => .array .int
abbrev wsX40 : List Cond := u_ws RX4 TX4 7
theorem nmX4 : ∀ a, a < 7 → ∀ b, b < 7 → a ≠ b → (TX4 a).2.1 ≠ (TX4 b).2.1 := by decide +kernel
theorem tyX4_ok : ∀ k, k < 7 → parseFieldDescriptor (TX4 k).2.2.1 = some (tyX4 k) := by decide +kernel
def yX4_init : MethodName := ⟨RX4, "<init>", "()V"⟩
def mX4_init : sg_M := (RX4, prog_1_method_1_code, 2, none)
def yX4_list : MethodName := ⟨RX4, "list", "(III)I"⟩
def mX4_list : sg_M := (RX4, prog_1_method_2_code, 5, (some .int))
def yX4_listed : MethodName := ⟨RX4, "listed", "(I)I"⟩
def mX4_listed : sg_M := (RX4, prog_1_method_3_code, 2, (some .int))
def yX4_person : MethodName := ⟨RX4, "person", "(II)I"⟩
def mX4_person : sg_M := (RX4, prog_1_method_4_code, 3, (some .int))
def yX4_saying : MethodName := ⟨RX4, "saying", "(III)I"⟩
def mX4_saying : sg_M := (RX4, prog_1_method_5_code, 4, (some .int))
def yX4_of : MethodName := ⟨RX4, "of", "(II)I"⟩
def mX4_of : sg_M := (RX4, prog_1_method_6_code, 3, (some .int))
def yX4_change : MethodName := ⟨RX4, "change", "(III)I"⟩
def mX4_change : sg_M := (RX4, prog_1_method_7_code, 4, (some .int))
def yX4_ofSaying : MethodName := ⟨RX4, "ofSaying", "(II)I"⟩
def mX4_ofSaying : sg_M := (RX4, prog_1_method_8_code, 3, (some .int))
def yX4_alter : MethodName := ⟨RX4, "alter", "(III)I"⟩
def mX4_alter : sg_M := (RX4, prog_1_method_9_code, 4, (some .int))
def yX4_from : MethodName := ⟨RX4, "from", "(II)I"⟩
def mX4_from : sg_M := (RX4, prog_1_method_10_code, 3, (some .int))
def yX4_traced : MethodName := ⟨RX4, "traced", "(II)I"⟩
def mX4_traced : sg_M := (RX4, prog_1_method_11_code, 3, (some .int))
def yX4_talk : MethodName := ⟨RX4, "talk", "(II)I"⟩
def mX4_talk : sg_M := (RX4, prog_1_method_12_code, 3, (some .int))
def yX4_go : MethodName := ⟨RX4, "go", "(I)I"⟩
def mX4_go : sg_M := (RX4, prog_1_method_13_code, 2, (some .int))
def yX4_now : MethodName := ⟨RX4, "now", "(I)I"⟩
def mX4_now : sg_M := (RX4, prog_1_method_14_code, 2, (some .int))
def yX4_ahead : MethodName := ⟨RX4, "ahead", "(III)I"⟩
def mX4_ahead : sg_M := (RX4, prog_1_method_15_code, 4, (some .int))
def yX4_spread : MethodName := ⟨RX4, "spread", "(II)I"⟩
def mX4_spread : sg_M := (RX4, prog_1_method_16_code, 3, (some .int))
def yX4_when : MethodName := ⟨RX4, "when", "(II)I"⟩
def mX4_when : sg_M := (RX4, prog_1_method_17_code, 4, (some .int))
def yX4_blamed : MethodName := ⟨RX4, "blamed", "(II)I"⟩
def mX4_blamed : sg_M := (RX4, prog_1_method_18_code, 4, (some .int))
def yX4_fund : MethodName := ⟨RX4, "fund", "(I)I"⟩
def mX4_fund : sg_M := (RX4, prog_1_method_19_code, 3, (some .int))
def yX4_beginner : MethodName := ⟨RX4, "beginner", "(II)I"⟩
def mX4_beginner : sg_M := (RX4, prog_1_method_20_code, 7, (some .int))
def yX4_kindFor : MethodName := ⟨RX4, "kindFor", "(II)I"⟩
def mX4_kindFor : sg_M := (RX4, prog_1_method_21_code, 6, (some .int))
def yX4_trustFor : MethodName := ⟨RX4, "trustFor", "(III)I"⟩
def mX4_trustFor : sg_M := (RX4, prog_1_method_22_code, 5, (some .int))
def yX4_weightFor : MethodName := ⟨RX4, "weightFor", "(II)I"⟩
def mX4_weightFor : sg_M := (RX4, prog_1_method_23_code, 4, (some .int))
def yX4_hush : MethodName := ⟨RX4, "hush", "(III)I"⟩
def mX4_hush : sg_M := (RX4, prog_1_method_24_code, 6, (some .int))
def yX4_keepsFrom : MethodName := ⟨RX4, "keepsFrom", "(IIII)Z"⟩
def mX4_keepsFrom : sg_M := (RX4, prog_1_method_25_code, 5, (some .boolean))
def yX4_fits : MethodName := ⟨RX4, "fits", "(II)I"⟩
def mX4_fits : sg_M := (RX4, prog_1_method_26_code, 6, (some .int))
def yX4_hearersAreAsTold : MethodName := ⟨RX4, "hearersAreAsTold", "(LNobodySaid$Sheet;I)Z"⟩
def mX4_hearersAreAsTold : sg_M := (RX4, prog_1_method_27_code, 4, (some .boolean))
def yX4_kinds : MethodName := ⟨RX4, "kinds", "(II)I"⟩
def mX4_kinds : sg_M := (RX4, prog_1_method_28_code, 5, (some .int))
def yX4_sayingsAreAsTold : MethodName := ⟨RX4, "sayingsAreAsTold", "(LNobodySaid$Sheet;I)Z"⟩
def mX4_sayingsAreAsTold : sg_M := (RX4, prog_1_method_29_code, 4, (some .boolean))
def yX4_evening : MethodName := ⟨RX4, "evening", "(I)I"⟩
def mX4_evening : sg_M := (RX4, prog_1_method_30_code, 5, (some .int))
def yX4_odds : MethodName := ⟨RX4, "odds", "(IIII)J"⟩
def mX4_odds : sg_M := (RX4, prog_1_method_31_code, 7, (some .long))
def yX4_inLowestTerms : MethodName := ⟨RX4, "inLowestTerms", "(III)I"⟩
def mX4_inLowestTerms : sg_M := (RX4, prog_1_method_32_code, 5, (some .int))
def yX4_power : MethodName := ⟨RX4, "power", "(II)J"⟩
def mX4_power : sg_M := (RX4, prog_1_method_33_code, 5, (some .long))
def yX4_seed : MethodName := ⟨RX4, "seed", "(I)I"⟩
def mX4_seed : sg_M := (RX4, prog_1_method_34_code, 3, (some .int))
def yX4_feed : MethodName := ⟨RX4, "feed", "(II)I"⟩
def mX4_feed : sg_M := (RX4, prog_1_method_35_code, 4, (some .int))
def yX4_wipe : MethodName := ⟨RX4, "wipe", "()I"⟩
def mX4_wipe : sg_M := (RX4, prog_1_method_36_code, 2, (some .int))
def yX4_text : MethodName := ⟨RX4, "text", "()I"⟩
def mX4_text : sg_M := (RX4, prog_1_method_37_code, 2, (some .int))
def yX4_hold : MethodName := ⟨RX4, "hold", "(II)I"⟩
def mX4_hold : sg_M := (RX4, prog_1_method_38_code, 3, (some .int))
def yX4_as : MethodName := ⟨RX4, "as", "(II)I"⟩
def mX4_as : sg_M := (RX4, prog_1_method_39_code, 4, (some .int))
def yX4_isUnder : MethodName := ⟨RX4, "isUnder", "(II)Z"⟩
def mX4_isUnder : sg_M := (RX4, prog_1_method_40_code, 4, (some .boolean))
def yX4_kindAbove : MethodName := ⟨RX4, "kindAbove", "(I)I"⟩
def mX4_kindAbove : sg_M := (RX4, prog_1_method_41_code, 1, (some .int))
def yX4_sheet : MethodName := ⟨RX4, "sheet", "(III)I"⟩
def mX4_sheet : sg_M := (RX4, prog_1_method_42_code, 4, (some .int))
def yX4_write : MethodName := ⟨RX4, "write", "(III)I"⟩
def mX4_write : sg_M := (RX4, prog_1_method_43_code, 4, (some .int))
def yX4_copy : MethodName := ⟨RX4, "copy", "(IIIII)I"⟩
def mX4_copy : sg_M := (RX4, prog_1_method_44_code, 6, (some .int))
def yX4_load : MethodName := ⟨RX4, "load", "(I)I"⟩
def mX4_load : sg_M := (RX4, prog_1_method_45_code, 4, (some .int))
def yX4_judge : MethodName := ⟨RX4, "judge", "(I)I"⟩
def mX4_judge : sg_M := (RX4, prog_1_method_46_code, 3, (some .int))
def yX4_image : MethodName := ⟨RX4, "image", "()I"⟩
def mX4_image : sg_M := (RX4, prog_1_method_47_code, 1, (some .int))
def yX4_undo : MethodName := ⟨RX4, "undo", "()I"⟩
def mX4_undo : sg_M := (RX4, prog_1_method_48_code, 1, (some .int))
def yX4_tear : MethodName := ⟨RX4, "tear", "()I"⟩
def mX4_tear : sg_M := (RX4, prog_1_method_49_code, 2, (some .int))
def yX4_count : MethodName := ⟨RX4, "count", "(I)I"⟩
def mX4_count : sg_M := (RX4, prog_1_method_50_code, 2, (some .int))
def yX4_status : MethodName := ⟨RX4, "status", "(I)I"⟩
def mX4_status : sg_M := (RX4, prog_1_method_51_code, 4, (some .int))
def yX4_finding : MethodName := ⟨RX4, "finding", "(I)I"⟩
def mX4_finding : sg_M := (RX4, prog_1_method_52_code, 2, (some .int))
def yX4_within : MethodName := ⟨RX4, "within", "(II)Z"⟩
def mX4_within : sg_M := (RX4, prog_1_method_53_code, 2, (some .boolean))
def yX4_exchange : MethodName := ⟨RX4, "exchange", "([IIII)I"⟩
def mX4_exchange : sg_M := (RX4, prog_1_method_54_code, 6, (some .int))
def RX5 : String := "NobodySaidModel"
def TX5 : u_T := fun k => match k with
  | 0 => ("NobodySaidModel", "now", "[I", true)
  | 1 => ("NobodySaidModel", "kept", "[I", true)
  | 2 => ("NobodySaidModel", "aside", "[I", true)
  | 3 => ("NobodySaidModel", "isKept", "Z", false)
  | 4 => ("NobodySaidModel", "found", "[I", true)
  | 5 => ("NobodySaidModel", "tape", "[I", true)
  | 6 => ("NobodySaidModel", "taped", "I", false)
  | 7 => ("NobodySaidModel", "begins", "I", false)
  | 8 => ("NobodySaidModel", "ends", "I", false)
  | 9 => ("NobodySaidModel", "sort", "I", false)
  | 10 => ("NobodySaidModel", "value", "I", false)
  | 11 => ("NobodySaidModel", "isWrong", "Z", false)
  | 12 => ("NobodySaidModel", "kindNames", "[Ljava/lang/String;", true)
  | 13 => ("NobodySaidModel", "items", "[I", true)
  | 14 => ("NobodySaidModel", "itemMany", "I", false)
  | 15 => ("NobodySaidModel", "peopleThen", "I", false)
  | 16 => ("NobodySaidModel", "sayingsThen", "I", false)
  | 17 => ("NobodySaidModel", "widths", "[I", true)
  | 18 => ("NobodySaidModel", "sizes", "[I", true)
  | 19 => ("NobodySaidModel", "numbers", "[I", true)
  | _ => ("NobodySaidModel", "moved", "[I", true)
def tyX5 : Nat → FieldType := fun k => match k with
  | 0 => .array .int
  | 1 => .array .int
  | 2 => .array .int
  | 3 => .boolean
  | 4 => .array .int
  | 5 => .array .int
  | 6 => .int
  | 7 => .int
  | 8 => .int
  | 9 => .int
  | 10 => .int
  | 11 => .boolean
  | 12 => .array (.object "java/lang/String")
  | 13 => .array .int
  | 14 => .int
  | 15 => .int
  | 16 => .int
  | 17 => .array .int
  | 18 => .array .int
  | 19 => .array .int
  | _ => .array .int
abbrev wsX50 : List Cond := u_ws RX5 TX5 21
theorem nmX5 : ∀ a, a < 21 → ∀ b, b < 21 → a ≠ b → (TX5 a).2.1 ≠ (TX5 b).2.1 := by decide +kernel
theorem tyX5_ok : ∀ k, k < 21 → parseFieldDescriptor (TX5 k).2.2.1 = some (tyX5 k) := by decide +kernel
def yX5_init : MethodName := ⟨RX5, "<init>", "()V"⟩
def mX5_init : sg_M := (RX5, prog_7_method_1_code, 2, none)
def yX5_finding : MethodName := ⟨RX5, "finding", "(I)I"⟩
def mX5_finding : sg_M := (RX5, prog_7_method_2_code, 2, (some .int))
def yX5_within : MethodName := ⟨RX5, "within", "(III)Z"⟩
def mX5_within : sg_M := (RX5, prog_7_method_3_code, 3, (some .boolean))
def yX5_become : MethodName := ⟨RX5, "become", "(II)I"⟩
def mX5_become : sg_M := (RX5, prog_7_method_4_code, 4, (some .int))
def yX5_copyRow : MethodName := ⟨RX5, "copyRow", "([I[I)V"⟩
def mX5_copyRow : sg_M := (RX5, prog_7_method_5_code, 3, none)
def yX5_putBack : MethodName := ⟨RX5, "putBack", "(I)I"⟩
def mX5_putBack : sg_M := (RX5, prog_7_method_6_code, 2, (some .int))
def yX5_orNone : MethodName := ⟨RX5, "orNone", "(I)I"⟩
def mX5_orNone : sg_M := (RX5, prog_7_method_7_code, 2, (some .int))
def yX5_bits : MethodName := ⟨RX5, "bits", "(I)I"⟩
def mX5_bits : sg_M := (RX5, prog_7_method_8_code, 3, (some .int))
def yX5_isOne : MethodName := ⟨RX5, "isOne", "(I)Z"⟩
def mX5_isOne : sg_M := (RX5, prog_7_method_9_code, 1, (some .boolean))
def yX5_isNine : MethodName := ⟨RX5, "isNine", "(I)Z"⟩
def mX5_isNine : sg_M := (RX5, prog_7_method_10_code, 1, (some .boolean))
def yX5_isPlace : MethodName := ⟨RX5, "isPlace", "(I)Z"⟩
def mX5_isPlace : sg_M := (RX5, prog_7_method_11_code, 1, (some .boolean))
def yX5_list : MethodName := ⟨RX5, "list", "(III)I"⟩
def mX5_list : sg_M := (RX5, prog_7_method_12_code, 4, (some .int))
def yX5_listed : MethodName := ⟨RX5, "listed", "(I)I"⟩
def mX5_listed : sg_M := (RX5, prog_7_method_13_code, 2, (some .int))
def yX5_placeNow : MethodName := ⟨RX5, "placeNow", "()I"⟩
def mX5_placeNow : sg_M := (RX5, prog_7_method_14_code, 1, (some .int))
def yX5_personAt : MethodName := ⟨RX5, "personAt", "(II)I"⟩
def mX5_personAt : sg_M := (RX5, prog_7_method_15_code, 2, (some .int))
def yX5_personIs : MethodName := ⟨RX5, "personIs", "(II)I"⟩
def mX5_personIs : sg_M := (RX5, prog_7_method_16_code, 3, (some .int))
def yX5_isPerson : MethodName := ⟨RX5, "isPerson", "(I)Z"⟩
def mX5_isPerson : sg_M := (RX5, prog_7_method_17_code, 2, (some .boolean))
def yX5_sayingAt : MethodName := ⟨RX5, "sayingAt", "(II)I"⟩
def mX5_sayingAt : sg_M := (RX5, prog_7_method_18_code, 2, (some .int))
def yX5_sayingIs : MethodName := ⟨RX5, "sayingIs", "(II)I"⟩
def mX5_sayingIs : sg_M := (RX5, prog_7_method_19_code, 3, (some .int))
def yX5_isSaying : MethodName := ⟨RX5, "isSaying", "(I)Z"⟩
def mX5_isSaying : sg_M := (RX5, prog_7_method_20_code, 2, (some .boolean))
def yX5_isKind : MethodName := ⟨RX5, "isKind", "(I)Z"⟩
def mX5_isKind : sg_M := (RX5, prog_7_method_21_code, 1, (some .boolean))
def yX5_comes : MethodName := ⟨RX5, "comes", "(II)I"⟩
def mX5_comes : sg_M := (RX5, prog_7_method_22_code, 4, (some .int))
def yX5_person : MethodName := ⟨RX5, "person", "(II)I"⟩
def mX5_person : sg_M := (RX5, prog_7_method_23_code, 3, (some .int))
def yX5_isBegun : MethodName := ⟨RX5, "isBegun", "(II)V"⟩
def mX5_isBegun : sg_M := (RX5, prog_7_method_24_code, 3, none)
def yX5_isSaid : MethodName := ⟨RX5, "isSaid", "(III)I"⟩
def mX5_isSaid : sg_M := (RX5, prog_7_method_25_code, 6, (some .int))
def yX5_saying : MethodName := ⟨RX5, "saying", "(III)I"⟩
def mX5_saying : sg_M := (RX5, prog_7_method_26_code, 4, (some .int))
def yX5_hasHeard : MethodName := ⟨RX5, "hasHeard", "(II)Z"⟩
def mX5_hasHeard : sg_M := (RX5, prog_7_method_27_code, 3, (some .boolean))
def yX5_heardBy : MethodName := ⟨RX5, "heardBy", "(I)I"⟩
def mX5_heardBy : sg_M := (RX5, prog_7_method_28_code, 4, (some .int))
def yX5_told : MethodName := ⟨RX5, "told", "(II)I"⟩
def mX5_told : sg_M := (RX5, prog_7_method_29_code, 3, (some .int))
def yX5_of : MethodName := ⟨RX5, "of", "(II)I"⟩
def mX5_of : sg_M := (RX5, prog_7_method_30_code, 3, (some .int))
def yX5_isField : MethodName := ⟨RX5, "isField", "(II)Z"⟩
def mX5_isField : sg_M := (RX5, prog_7_method_31_code, 2, (some .boolean))
def yX5_change : MethodName := ⟨RX5, "change", "(III)I"⟩
def mX5_change : sg_M := (RX5, prog_7_method_32_code, 4, (some .int))
def yX5_ofSaying : MethodName := ⟨RX5, "ofSaying", "(II)I"⟩
def mX5_ofSaying : sg_M := (RX5, prog_7_method_33_code, 3, (some .int))
def yX5_alter : MethodName := ⟨RX5, "alter", "(III)I"⟩
def mX5_alter : sg_M := (RX5, prog_7_method_34_code, 5, (some .int))
def yX5_from : MethodName := ⟨RX5, "from", "(II)I"⟩
def mX5_from : sg_M := (RX5, prog_7_method_35_code, 3, (some .int))
def yX5_tracedFrom : MethodName := ⟨RX5, "tracedFrom", "(II)I"⟩
def mX5_tracedFrom : sg_M := (RX5, prog_7_method_36_code, 6, (some .int))
def yX5_traced : MethodName := ⟨RX5, "traced", "(II)I"⟩
def mX5_traced : sg_M := (RX5, prog_7_method_37_code, 3, (some .int))
def yX5_tells : MethodName := ⟨RX5, "tells", "(III)Z"⟩
def mX5_tells : sg_M := (RX5, prog_7_method_38_code, 6, (some .boolean))
def yX5_believes : MethodName := ⟨RX5, "believes", "(II)Z"⟩
def mX5_believes : sg_M := (RX5, prog_7_method_39_code, 6, (some .boolean))
def yX5_names : MethodName := ⟨RX5, "names", "(II)I"⟩
def mX5_names : sg_M := (RX5, prog_7_method_40_code, 4, (some .int))
def yX5_pays : MethodName := ⟨RX5, "pays", "(II)I"⟩
def mX5_pays : sg_M := (RX5, prog_7_method_41_code, 3, (some .int))
def yX5_mayTalk : MethodName := ⟨RX5, "mayTalk", "(II)Z"⟩
def mX5_mayTalk : sg_M := (RX5, prog_7_method_42_code, 3, (some .boolean))
def yX5_talks : MethodName := ⟨RX5, "talks", "(II)I"⟩
def mX5_talks : sg_M := (RX5, prog_7_method_43_code, 5, (some .int))
def yX5_talk : MethodName := ⟨RX5, "talk", "(II)I"⟩
def mX5_talk : sg_M := (RX5, prog_7_method_44_code, 3, (some .int))
def yX5_more : MethodName := ⟨RX5, "more", "(III)V"⟩
def mX5_more : sg_M := (RX5, prog_7_method_45_code, 4, none)
def yX5_greatest : MethodName := ⟨RX5, "greatest", "(I)I"⟩
def mX5_greatest : sg_M := (RX5, prog_7_method_46_code, 2, (some .int))
def yX5_theNobody : MethodName := ⟨RX5, "theNobody", "()I"⟩
def mX5_theNobody : sg_M := (RX5, prog_7_method_47_code, 3, (some .int))
def yX5_trial : MethodName := ⟨RX5, "trial", "(I)V"⟩
def mX5_trial : sg_M := (RX5, prog_7_method_48_code, 5, none)
def yX5_day : MethodName := ⟨RX5, "day", "()V"⟩
def mX5_day : sg_M := (RX5, prog_7_method_49_code, 4, none)
def yX5_daysGo : MethodName := ⟨RX5, "daysGo", "(I)V"⟩
def mX5_daysGo : sg_M := (RX5, prog_7_method_50_code, 3, none)
def yX5_go : MethodName := ⟨RX5, "go", "(I)I"⟩
def mX5_go : sg_M := (RX5, prog_7_method_51_code, 2, (some .int))
def yX5_heardInAll : MethodName := ⟨RX5, "heardInAll", "()I"⟩
def mX5_heardInAll : sg_M := (RX5, prog_7_method_52_code, 3, (some .int))
def yX5_allHeard : MethodName := ⟨RX5, "allHeard", "(I)Z"⟩
def mX5_allHeard : sg_M := (RX5, prog_7_method_53_code, 2, (some .boolean))
def yX5_commonOnes : MethodName := ⟨RX5, "commonOnes", "()I"⟩
def mX5_commonOnes : sg_M := (RX5, prog_7_method_54_code, 3, (some .int))
def yX5_blamedInAll : MethodName := ⟨RX5, "blamedInAll", "()I"⟩
def mX5_blamedInAll : sg_M := (RX5, prog_7_method_55_code, 3, (some .int))
def yX5_blamedMost : MethodName := ⟨RX5, "blamedMost", "()I"⟩
def mX5_blamedMost : sg_M := (RX5, prog_7_method_56_code, 3, (some .int))
def yX5_deafOnes : MethodName := ⟨RX5, "deafOnes", "()I"⟩
def mX5_deafOnes : sg_M := (RX5, prog_7_method_57_code, 3, (some .int))
def yX5_fromNobody : MethodName := ⟨RX5, "fromNobody", "()I"⟩
def mX5_fromNobody : sg_M := (RX5, prog_7_method_58_code, 4, (some .int))
def yX5_now : MethodName := ⟨RX5, "now", "(I)I"⟩
def mX5_now : sg_M := (RX5, prog_7_method_59_code, 2, (some .int))
def yX5_behind : MethodName := ⟨RX5, "behind", "(II)I"⟩
def mX5_behind : sg_M := (RX5, prog_7_method_60_code, 3, (some .int))
def yX5_ahead : MethodName := ⟨RX5, "ahead", "(III)I"⟩
def mX5_ahead : sg_M := (RX5, prog_7_method_61_code, 4, (some .int))
def yX5_spread : MethodName := ⟨RX5, "spread", "(II)I"⟩
def mX5_spread : sg_M := (RX5, prog_7_method_62_code, 3, (some .int))
def yX5_when : MethodName := ⟨RX5, "when", "(II)I"⟩
def mX5_when : sg_M := (RX5, prog_7_method_63_code, 4, (some .int))
def yX5_daysTo : MethodName := ⟨RX5, "daysTo", "(II)I"⟩
def mX5_daysTo : sg_M := (RX5, prog_7_method_64_code, 4, (some .int))
def yX5_blamed : MethodName := ⟨RX5, "blamed", "(II)I"⟩
def mX5_blamed : sg_M := (RX5, prog_7_method_65_code, 3, (some .int))
def yX5_fund : MethodName := ⟨RX5, "fund", "(I)I"⟩
def mX5_fund : sg_M := (RX5, prog_7_method_66_code, 2, (some .int))
def yX5_isThought : MethodName := ⟨RX5, "isThought", "(I)Z"⟩
def mX5_isThought : sg_M := (RX5, prog_7_method_67_code, 1, (some .boolean))
def yX5_spreadBy : MethodName := ⟨RX5, "spreadBy", "(III)I"⟩
def mX5_spreadBy : sg_M := (RX5, prog_7_method_68_code, 4, (some .int))
def yX5_beginner : MethodName := ⟨RX5, "beginner", "(II)I"⟩
def mX5_beginner : sg_M := (RX5, prog_7_method_69_code, 7, (some .int))
def yX5_kindFor : MethodName := ⟨RX5, "kindFor", "(II)I"⟩
def mX5_kindFor : sg_M := (RX5, prog_7_method_70_code, 9, (some .int))
def yX5_trustFor : MethodName := ⟨RX5, "trustFor", "(III)I"⟩
def mX5_trustFor : sg_M := (RX5, prog_7_method_71_code, 8, (some .int))
def yX5_weightFor : MethodName := ⟨RX5, "weightFor", "(II)I"⟩
def mX5_weightFor : sg_M := (RX5, prog_7_method_72_code, 7, (some .int))
def yX5_staysAway : MethodName := ⟨RX5, "staysAway", "(IIII)Z"⟩
def mX5_staysAway : sg_M := (RX5, prog_7_method_73_code, 6, (some .boolean))
def yX5_hush : MethodName := ⟨RX5, "hush", "(III)I"⟩
def mX5_hush : sg_M := (RX5, prog_7_method_74_code, 6, (some .int))
def yX5_lacks : MethodName := ⟨RX5, "lacks", "(IZ)I"⟩
def mX5_lacks : sg_M := (RX5, prog_7_method_75_code, 3, (some .int))
def yX5_isSo : MethodName := ⟨RX5, "isSo", "(III)Z"⟩
def mX5_isSo : sg_M := (RX5, prog_7_method_76_code, 7, (some .boolean))
def yX5_fits : MethodName := ⟨RX5, "fits", "(II)I"⟩
def mX5_fits : sg_M := (RX5, prog_7_method_77_code, 8, (some .int))
def yX5_kinds : MethodName := ⟨RX5, "kinds", "(II)I"⟩
def mX5_kinds : sg_M := (RX5, prog_7_method_78_code, 8, (some .int))
def yX5_drawn : MethodName := ⟨RX5, "drawn", "()I"⟩
def mX5_drawn : sg_M := (RX5, prog_7_method_79_code, 1, (some .int))
def yX5_evening : MethodName := ⟨RX5, "evening", "(I)I"⟩
def mX5_evening : sg_M := (RX5, prog_7_method_80_code, 5, (some .int))
def yX5_odds : MethodName := ⟨RX5, "odds", "(IIII)J"⟩
def mX5_odds : sg_M := (RX5, prog_7_method_81_code, 13, (some .long))
def yX5_seed : MethodName := ⟨RX5, "seed", "(I)I"⟩
def mX5_seed : sg_M := (RX5, prog_7_method_82_code, 2, (some .int))
def yX5_feed : MethodName := ⟨RX5, "feed", "(II)I"⟩
def mX5_feed : sg_M := (RX5, prog_7_method_83_code, 4, (some .int))
def yX5_wipe : MethodName := ⟨RX5, "wipe", "()I"⟩
def mX5_wipe : sg_M := (RX5, prog_7_method_84_code, 2, (some .int))
def yX5_byteAt : MethodName := ⟨RX5, "byteAt", "(I)I"⟩
def mX5_byteAt : sg_M := (RX5, prog_7_method_85_code, 2, (some .int))
def yX5_token : MethodName := ⟨RX5, "token", "()V"⟩
def mX5_token : sg_M := (RX5, prog_7_method_86_code, 2, none)
def yX5_isWord : MethodName := ⟨RX5, "isWord", "(Ljava/lang/String;)Z"⟩
def mX5_isWord : sg_M := (RX5, prog_7_method_87_code, 4, (some .boolean))
def yX5_must : MethodName := ⟨RX5, "must", "(Z)V"⟩
def mX5_must : sg_M := (RX5, prog_7_method_88_code, 2, none)
def yX5_number : MethodName := ⟨RX5, "number", "(II)I"⟩
def mX5_number : sg_M := (RX5, prog_7_method_89_code, 4, (some .int))
def yX5_addItem : MethodName := ⟨RX5, "addItem", "(IIII)V"⟩
def mX5_addItem : sg_M := (RX5, prog_7_method_90_code, 6, none)
def yX5_takesWord : MethodName := ⟨RX5, "takesWord", "(Ljava/lang/String;)Z"⟩
def mX5_takesWord : sg_M := (RX5, prog_7_method_91_code, 3, (some .boolean))
def yX5_readPerson : MethodName := ⟨RX5, "readPerson", "(I)V"⟩
def mX5_readPerson : sg_M := (RX5, prog_7_method_92_code, 3, none)
def yX5_readSaying : MethodName := ⟨RX5, "readSaying", "()V"⟩
def mX5_readSaying : sg_M := (RX5, prog_7_method_93_code, 3, none)
def yX5_readItem : MethodName := ⟨RX5, "readItem", "()V"⟩
def mX5_readItem : sg_M := (RX5, prog_7_method_94_code, 4, none)
def yX5_isToldSo : MethodName := ⟨RX5, "isToldSo", "(I)V"⟩
def mX5_isToldSo : sg_M := (RX5, prog_7_method_95_code, 6, none)
def yX5_text : MethodName := ⟨RX5, "text", "()I"⟩
def mX5_text : sg_M := (RX5, prog_7_method_96_code, 2, (some .int))
def yX5_isSpot : MethodName := ⟨RX5, "isSpot", "(I)Z"⟩
def mX5_isSpot : sg_M := (RX5, prog_7_method_97_code, 1, (some .boolean))
def yX5_hold : MethodName := ⟨RX5, "hold", "(II)I"⟩
def mX5_hold : sg_M := (RX5, prog_7_method_98_code, 3, (some .int))
def yX5_as : MethodName := ⟨RX5, "as", "(II)I"⟩
def mX5_as : sg_M := (RX5, prog_7_method_99_code, 4, (some .int))
def yX5_isSheet : MethodName := ⟨RX5, "isSheet", "(I)Z"⟩
def mX5_isSheet : sg_M := (RX5, prog_7_method_100_code, 1, (some .boolean))
def yX5_cutTo : MethodName := ⟨RX5, "cutTo", "(II)I"⟩
def mX5_cutTo : sg_M := (RX5, prog_7_method_101_code, 2, (some .int))
def yX5_sheet : MethodName := ⟨RX5, "sheet", "(III)I"⟩
def mX5_sheet : sg_M := (RX5, prog_7_method_102_code, 5, (some .int))
def yX5_write : MethodName := ⟨RX5, "write", "(III)I"⟩
def mX5_write : sg_M := (RX5, prog_7_method_103_code, 4, (some .int))
def yX5_copy : MethodName := ⟨RX5, "copy", "(IIIII)I"⟩
def mX5_copy : sg_M := (RX5, prog_7_method_104_code, 7, (some .int))
def yX5_above : MethodName := ⟨RX5, "above", "(I)I"⟩
def mX5_above : sg_M := (RX5, prog_7_method_105_code, 1, (some .int))
def yX5_isUnder : MethodName := ⟨RX5, "isUnder", "(II)Z"⟩
def mX5_isUnder : sg_M := (RX5, prog_7_method_106_code, 3, (some .boolean))
def yX5_load : MethodName := ⟨RX5, "load", "(I)I"⟩
def mX5_load : sg_M := (RX5, prog_7_method_107_code, 3, (some .int))
def yX5_judge : MethodName := ⟨RX5, "judge", "(I)I"⟩
def mX5_judge : sg_M := (RX5, prog_7_method_108_code, 3, (some .int))
def yX5_image : MethodName := ⟨RX5, "image", "()I"⟩
def mX5_image : sg_M := (RX5, prog_7_method_109_code, 1, (some .int))
def yX5_undo : MethodName := ⟨RX5, "undo", "()I"⟩
def mX5_undo : sg_M := (RX5, prog_7_method_110_code, 1, (some .int))
def yX5_tear : MethodName := ⟨RX5, "tear", "()I"⟩
def mX5_tear : sg_M := (RX5, prog_7_method_111_code, 2, (some .int))
def yX5_count : MethodName := ⟨RX5, "count", "(I)I"⟩
def mX5_count : sg_M := (RX5, prog_7_method_112_code, 4, (some .int))
def yX5_status : MethodName := ⟨RX5, "status", "(I)I"⟩
def mX5_status : sg_M := (RX5, prog_7_method_113_code, 2, (some .int))
def RJ6 : String := "java/lang/Integer"
def yJ6_bitCount_0f7a4 : MethodName := ⟨RJ6, "bitCount", "(I)I"⟩
def mJ6_bitCount_0f7a4 : sg_M := (RJ6, prog_8_method_49_code, 1, (some .int))
def RJ9 : String := "java/lang/Math"
def yJ9_min_7cf53 : MethodName := ⟨RJ9, "min", "(II)I"⟩
def mJ9_min_7cf53 : sg_M := (RJ9, prog_9_method_69_code, 2, (some .int))
def RJ0 : String := "java/lang/String"
def yJ0_length_8abf5 : MethodName := ⟨RJ0, "length", "()I"⟩
def mJ0_length_8abf5 : sg_M := (RJ0, prog_10_method_54_code, 1, (some .int))
def yJ0_charAt_5068e : MethodName := ⟨RJ0, "charAt", "(I)C"⟩
def mJ0_charAt_5068e : sg_M := (RJ0, prog_10_method_56_code, 2, (some .char))
def yJ0_coder_7d493 : MethodName := ⟨RJ0, "coder", "()B"⟩
def mJ0_coder_7d493 : sg_M := (RJ0, prog_10_method_152_code, 1, (some .byte))
def yJ0_isLatin1_aae02 : MethodName := ⟨RJ0, "isLatin1", "()Z"⟩
def mJ0_isLatin1_aae02 : sg_M := (RJ0, prog_10_method_154_code, 1, (some .boolean))
def yJ0_checkIndex_df160 : MethodName := ⟨RJ0, "checkIndex", "(II)V"⟩
def mJ0_checkIndex_df160 : sg_M := (RJ0, prog_10_method_155_code, 2, none)
def RJ1 : String := "java/lang/StringLatin1"
def yJ1_charAt_3b067 : MethodName := ⟨RJ1, "charAt", "([BI)C"⟩
def mJ1_charAt_3b067 : sg_M := (RJ1, prog_11_method_2_code, 2, (some .char))
def RJ2 : String := "java/lang/StringUTF16"
def yJ2_getChar_3b067 : MethodName := ⟨RJ2, "getChar", "([BI)C"⟩
def mJ2_getChar_3b067 : sg_M := (RJ2, prog_12_method_5_code, 2, (some .char))
def yJ2_length_9d52b : MethodName := ⟨RJ2, "length", "([B)I"⟩
def mJ2_length_9d52b : sg_M := (RJ2, prog_12_method_6_code, 1, (some .int))
def yJ2_charAt_3b067 : MethodName := ⟨RJ2, "charAt", "([BI)C"⟩
def mJ2_charAt_3b067 : sg_M := (RJ2, prog_12_method_83_code, 2, (some .char))
def yJ2_checkIndex_2214a : MethodName := ⟨RJ2, "checkIndex", "(I[B)V"⟩
def mJ2_checkIndex_2214a : sg_M := (RJ2, prog_12_method_91_code, 2, none)
def RJ10 : String := "java/lang/System"
def RJ7 : String := "java/util/Arrays"
def yJ7_fill_53178 : MethodName := ⟨RJ7, "fill", "([II)V"⟩
def mJ7_fill_53178 : sg_M := (RJ7, prog_14_method_103_code, 4, none)
def RJ3 : String := "jdk/internal/util/Preconditions"
def yJ3_checkIndex_8e157 : MethodName := ⟨RJ3, "checkIndex", "(IILjava/util/function/BiFunction;)I"⟩
def mJ3_checkIndex_8e157 : sg_M := (RJ3, prog_15_method_11_code, 3, (some .int))
def RL : String := "NobodySaidLaw"
def mL_law : sg_M := (RL, code, 4, some .boolean)
abbrev vwCl : List vw_C := [(RX0, TX0, 4), (RX1, TX1, 3), (RX2, TX2, 5), (RX3, TX3, 15), (RX4, TX4, 7), (RX5, TX5, 21)]
set_option maxRecDepth 100000 in
theorem inX0_l : ∀ w ∈ wsX00, w ∈ lw_tbl := by decide +kernel
set_option maxRecDepth 100000 in
theorem inX1_l : ∀ w ∈ wsX10, w ∈ lw_tbl := by decide +kernel
set_option maxRecDepth 100000 in
theorem inX2_l : ∀ w ∈ wsX20, w ∈ lw_tbl := by decide +kernel
set_option maxRecDepth 100000 in
theorem inX3_l : ∀ w ∈ wsX30, w ∈ lw_tbl := by decide +kernel
set_option maxRecDepth 100000 in
theorem inX4_l : ∀ w ∈ wsX40, w ∈ lw_tbl := by decide +kernel
set_option maxRecDepth 100000 in
theorem inX5_l : ∀ w ∈ wsX50, w ∈ lw_tbl := by decide +kernel
end
section
/-! the words that every contract of mine takes: the good ones of the tables -/
def tw : List Cond := lw_tbl.filter goodWord
theorem tw_in {w : Cond} (h : w ∈ tw) : w ∈ lw_tbl := (List.mem_filter.mp h).1
theorem tw_of {w : Cond} (h : w ∈ lw_tbl) (g : goodWord w = true) : w ∈ tw := List.mem_filter.mpr ⟨h, g⟩
theorem tw_at {w : Cond} (i : Nat) (h : lw_tbl[i]? = some w) (g : goodWord w = true) : w ∈ tw := tw_of (List.mem_of_getElem? h) g
theorem tw_good {w : Cond} (h : w ∈ tw) : (w.onTables && w.keeps) = true ∨ ∃ ty, w = .arrayClass ty := good_of_word (List.mem_filter.mp h).2
theorem tw_goodIn {y : MethodName} {b : ByteArray} {n : Nat} {r : Option FieldType} (h : Cond.code y b n r ∈ tw) : GoodIn tw (Cond.code y b n r :: tw) := by
  intro w hw
  rcases List.mem_cons.mp hw with rfl | hw
  · exact ⟨h, tw_good h⟩
  · exact ⟨hw, tw_good hw⟩
theorem inX0 : ∀ w ∈ wsX00, w ∈ tw := fun w h => tw_of (inX0_l w h) ((by decide +kernel : ∀ w ∈ wsX00, goodWord w = true) w h)
theorem inX1 : ∀ w ∈ wsX10, w ∈ tw := fun w h => tw_of (inX1_l w h) ((by decide +kernel : ∀ w ∈ wsX10, goodWord w = true) w h)
theorem inX2 : ∀ w ∈ wsX20, w ∈ tw := fun w h => tw_of (inX2_l w h) ((by decide +kernel : ∀ w ∈ wsX20, goodWord w = true) w h)
theorem inX3 : ∀ w ∈ wsX30, w ∈ tw := fun w h => tw_of (inX3_l w h) ((by decide +kernel : ∀ w ∈ wsX30, goodWord w = true) w h)
theorem inX4 : ∀ w ∈ wsX40, w ∈ tw := fun w h => tw_of (inX4_l w h) ((by decide +kernel : ∀ w ∈ wsX40, goodWord w = true) w h)
theorem inX5 : ∀ w ∈ wsX50, w ∈ tw := fun w h => tw_of (inX5_l w h) ((by decide +kernel : ∀ w ∈ wsX50, goodWord w = true) w h)
/-! places and shapes -/
abbrev sg_S : Type := Nat → Nat → Int32
def sg_up (σ : sg_S) (k : Nat) (f : Nat → Int32) : sg_S := fun j => if j = k then f else σ j
def sg_st (σ : sg_S) (k i : Nat) (x : Int32) : sg_S := sg_up σ k (upd (σ k) i x)
def sg_Al : List (Option Nat) := [none, none, some 6, some 8, some 8, some 8, some 8, some 6, some 6, some 6, some 48, some 10, none, some 6, some 8, some 8, some 8, some 8, some 6, some 6, some 6, some 48, some 10, none, some 6, some 8, some 8, some 8, some 8, some 6, some 6, some 6, some 48, some 10, none, none, some 120, some 121, some 121, some 121, none, some 6, some 8, some 8, some 8, some 8, some 6, some 6, some 6, some 48, some 10, some 3, none, none, some 40, none, some 40, none, some 40, none, some 40, some 7, none, some 119, some 119, some 119, some 8, some 120, none, some 480, some 4, some 4, some 160, some 40]
def sg_A (k : Nat) : Option Nat := sg_Al.getD k none
def sg_Ol : List (Option (Nat × List (Option Nat))) := [some (4, [some 1, some 12, some 23, none, some 34, some 52, some 61]), some (3, [some 2, some 3, some 4, some 5, some 6, some 7, some 8, some 9, some 10, some 11, none, none, none, none, none]), none, none, none, none, none, none, none, none, none, none, some (3, [some 13, some 14, some 15, some 16, some 17, some 18, some 19, some 20, some 21, some 22, none, none, none, none, none]), none, none, none, none, none, none, none, none, none, none, some (3, [some 24, some 25, some 26, some 27, some 28, some 29, some 30, some 31, some 32, some 33, none, none, none, none, none]), none, none, none, none, none, none, none, none, none, none, some (0, [some 35, some 40, some 51, none]), some (2, [some 36, none, some 37, some 38, some 39]), none, none, none, none, some (3, [some 41, some 42, some 43, some 44, some 45, some 46, some 47, some 48, some 49, some 50, none, none, none, none, none]), none, none, none, none, none, none, none, none, none, none, none, none, some (1, [some 54, none, none]), none, some (1, [some 56, none, none]), none, some (1, [some 58, none, none]), none, some (1, [some 60, none, none]), none, none, some (5, [some 63, some 64, some 65, none, some 66, some 67, none, none, none, none, none, none, some 68, some 69, none, none, none, some 70, some 71, some 72, some 73]), none, none, none, none, none, none, none, none, none, none, none]
def sg_O (k : Nat) : Option (Nat × List (Option Nat)) := sg_Ol.getD k none
theorem sg_A_lt {k n : Nat} (h : sg_A k = some n) : k < 74 := by
  rcases Nat.lt_or_ge k 74 with q | q
  · exact q
  · unfold sg_A at h
    rw [List.getD_eq_getElem?_getD, List.getElem?_eq_none (show sg_Al.length ≤ k from q)] at h
    cases h
theorem sg_O_lt {k : Nat} {x : Nat × List (Option Nat)} (h : sg_O k = some x) : k < 74 := by
  rcases Nat.lt_or_ge k 74 with q | q
  · exact q
  · unfold sg_O at h
    rw [List.getD_eq_getElem?_getD, List.getElem?_eq_none (show sg_Ol.length ≤ k from q)] at h
    cases h
theorem sg_AO : ∀ k, k < 74 → (sg_O k).isSome = true → sg_A k = none := by decide +kernel
/-- D, the addresses of the places, the classes of int[], Sheet[], String[], the formatter, the script -/
abbrev sg_G : Type := va_G × (Nat → Nat) × (ClassId × ClassId × ClassId) × Value × Nat × (Nat → Int32)
abbrev sg_ad (G : sg_G) : Nat → Nat := G.2.1
def sg_v (G : sg_G) (v : Value) : Value := match v with
  | .ref k => if k = 140 then G.2.2.2.1 else .ref (G.2.1 k)
  | v => v
theorem sg_v_ref (G : sg_G) {k : Nat} (h : k ≠ 140) : sg_v G (.ref k) = .ref (sg_ad G k) := by simp [sg_v, h]
theorem sg_v_int (G : sg_G) (x : Int32) : sg_v G (.int x) = .int x := rfl
theorem sg_v_long (G : sg_G) (x : Int64) : sg_v G (.long x) = .long x := rfl
def sg_fl (ad : Nat → Nat) : List (Option Nat) → (Nat → Int32) → Nat → List Value
  | [], _, _ => []
  | none :: l, f, j => .int (f j) :: sg_fl ad l f (j + 1)
  | some k :: l, f, j => .ref (ad k) :: sg_fl ad l f (j + 1)
theorem sg_fl_len (ad : Nat → Nat) (f : Nat → Int32) : ∀ (l : List (Option Nat)) (j : Nat), (sg_fl ad l f j).length = l.length
  | [], _ => rfl
  | none :: l, j => by simp [sg_fl, sg_fl_len ad f l (j + 1)]
  | some k :: l, j => by simp [sg_fl, sg_fl_len ad f l (j + 1)]
theorem sg_fl_int (ad : Nat → Nat) (f : Nat → Int32) : ∀ (l : List (Option Nat)) (j i : Nat), l[i]? = some none → (sg_fl ad l f j)[i]? = some (.int (f (j + i)))
  | none :: l, j, 0, _ => by simp [sg_fl]
  | none :: l, j, i + 1, h => by
    have := sg_fl_int ad f l (j + 1) i (by simpa using h)
    simp only [sg_fl, List.getElem?_cons_succ, this]
    congr 3; omega
  | some k :: l, j, i + 1, h => by
    have := sg_fl_int ad f l (j + 1) i (by simpa using h)
    simp only [sg_fl, List.getElem?_cons_succ, this]
    congr 3; omega
  | some k :: l, j, 0, h => by simp at h
  | [], j, i, h => by simp at h
theorem sg_fl_ref (ad : Nat → Nat) (f : Nat → Int32) : ∀ (l : List (Option Nat)) (j i k : Nat), l[i]? = some (some k) → (sg_fl ad l f j)[i]? = some (.ref (ad k))
  | some k :: l, j, 0, k', h => by simp at h; simp [sg_fl, h]
  | none :: l, j, 0, k', h => by simp at h
  | none :: l, j, i + 1, k', h => by simpa [sg_fl] using sg_fl_ref ad f l (j + 1) i k' (by simpa using h)
  | some k :: l, j, i + 1, k', h => by simpa [sg_fl] using sg_fl_ref ad f l (j + 1) i k' (by simpa using h)
  | [], j, i, k', h => by simp at h
theorem sg_fl_same (ad : Nat → Nat) (f g : Nat → Int32) : ∀ (l : List (Option Nat)) (j : Nat), (∀ i, j ≤ i → f i = g i) → sg_fl ad l f j = sg_fl ad l g j
  | [], _, _ => rfl
  | none :: l, j, h => by simp [sg_fl, h j (Nat.le_refl j), sg_fl_same ad f g l (j + 1) (fun i hi => h i (by omega))]
  | some k :: l, j, h => by simp [sg_fl, sg_fl_same ad f g l (j + 1) (fun i hi => h i (by omega))]
theorem sg_fl_set (ad : Nat → Nat) (x : Int32) : ∀ (l : List (Option Nat)) (f : Nat → Int32) (j i : Nat), l[i]? = some none → (sg_fl ad l f j).set i (.int x) = sg_fl ad l (upd f (j + i) x) j
  | none :: l, f, j, 0, _ => by
    simp only [sg_fl, List.set_cons_zero, Nat.add_zero]
    rw [sg_fl_same ad f (upd f j x) l (j + 1) (fun i hi => by simp [upd]; intro e; omega)]
    simp [upd]
  | none :: l, f, j, i + 1, h => by
    have := sg_fl_set ad x l f (j + 1) i (by simpa using h)
    simp only [sg_fl, List.set_cons_succ, this]
    rw [show j + 1 + i = j + (i + 1) by omega]
    congr 2
    simp [upd]
  | some k :: l, f, j, i + 1, h => by
    have := sg_fl_set ad x l f (j + 1) i (by simpa using h)
    simp only [sg_fl, List.set_cons_succ, this]
    rw [show j + 1 + i = j + (i + 1) by omega]
  | some k :: l, f, j, 0, h => by simp at h
  | [], f, j, i, h => by simp at h
def sg_E (G : sg_G) (k : Nat) (f : Nat → Int32) : va_E := match sg_A k with
  | some n => .inl (G.2.2.1.1, n, .inl f)
  | none => match sg_O k with
    | some q => .inr (q.1, sg_fl (sg_ad G) q.2 f 0)
    | none => if k = 52 then .inl (G.2.2.1.2.1, 4, .inr (.inr (.inr (.inr (fun i => some (sg_ad G (53 + 2 * i))))))) else .inl (G.2.2.1.2.2, 7, .inr (.inr (.inr (.inr (fun i => some (sg_ad G (100 + i)))))))
theorem sg_E_arr {G : sg_G} {k n : Nat} {f : Nat → Int32} (h : sg_A k = some n) : sg_E G k f = .inl (G.2.2.1.1, n, .inl f) := by simp [sg_E, h]
theorem sg_E_obj {G : sg_G} {k ci : Nat} {fl : List (Option Nat)} {f : Nat → Int32} (h : sg_O k = some (ci, fl)) : sg_E G k f = .inr (ci, sg_fl (sg_ad G) fl f 0) := by
  have hA := sg_AO k (sg_O_lt h) (by rw [h]; rfl)
  simp [sg_E, hA, h]
def sg_W (G : sg_G) (σ : sg_S) : va_W := (List.range 74).map fun k => (sg_ad G k, sg_E G k (σ k))
theorem sg_W_at {G : sg_G} {σ : sg_S} {k : Nat} (h : k < 74) : (sg_W G σ)[k]? = some (sg_ad G k, sg_E G k (σ k)) := by simp [sg_W, h]
theorem sg_W_len {G : sg_G} {σ : sg_S} : (sg_W G σ).length = 74 := by simp [sg_W]
theorem sg_W_set {G : sg_G} {σ : sg_S} {k : Nat} {f : Nat → Int32} {e : va_E} (h : k < 74) (he : e = sg_E G k f) : (sg_W G σ).set k (sg_ad G k, e) = sg_W G (sg_up σ k f) := by
  apply List.ext_getElem?
  intro j
  rw [List.getElem?_set]
  by_cases hj : k = j
  · subst hj
    rw [if_pos rfl, sg_W_len, if_pos h, sg_W_at h, he]
    simp [sg_up]
  · rw [if_neg hj]
    by_cases h2 : j < 74
    · rw [sg_W_at h2, sg_W_at h2]
      simp [sg_up, Ne.symm hj]
    · rw [List.getElem?_eq_none (by rw [sg_W_len]; omega), List.getElem?_eq_none (by rw [sg_W_len]; omega)]
def sg_Ad (G : sg_G) : Nat → Prop := fun q => ∃ k, k < 74 ∧ q = sg_ad G k
theorem sg_W_inv {G : sg_G} {σ : sg_S} {k : Nat} {q : Nat × va_E} (h : (sg_W G σ)[k]? = some q) : k < 74 ∧ q = (sg_ad G k, sg_E G k (σ k)) := by
  have hk : k < 74 := by
    have := (List.getElem?_eq_some_iff.mp h).1
    rwa [sg_W_len] at this
  rw [sg_W_at hk] at h
  exact ⟨hk, (Option.some.inj h).symm⟩
theorem sg_D_any {G : sg_G} {σ σ' : sg_S} {A : Nat → Prop} (h : va_D A (sg_W G σ)) : va_D A (sg_W G σ') := by
  refine ⟨fun i j p q hi hj e => ?_, fun k q hk => ?_⟩
  · obtain ⟨h1, rfl⟩ := sg_W_inv hi
    obtain ⟨h2, rfl⟩ := sg_W_inv hj
    exact h.1 i j _ _ (sg_W_at h1) (sg_W_at h2) e
  · obtain ⟨h1, rfl⟩ := sg_W_inv hk
    have h3 := h.2 k _ (sg_W_at (σ := σ) h1)
    exact h3
abbrev sg_ty (G : sg_G) : List (ClassId × FieldType) := [(G.2.2.1.1, .int), (G.2.2.1.2.1, .object RX1), (G.2.2.1.2.2, .object "java/lang/String")]
def sg_len : List Nat := [6, 6, 5, 5, 6, 4, 5, 5, 5, 6, 4, 68]
def sg_byt : List (List Int32) := [[112, 101, 114, 115, 111, 110], [103, 111, 115, 115, 105, 112], [99, 108, 101, 114, 107], [106, 117, 100, 103, 101], [110, 111, 98, 111, 100, 121], [109, 117, 116, 101], [99, 104, 105, 108, 100], [116, 114, 117, 115, 116], [113, 117, 105, 101, 116], [115, 97, 121, 105, 110, 103], [116, 97, 108, 107], [112, 101, 114, 115, 111, 110, 32, 103, 111, 115, 115, 105, 112, 32, 99, 108, 101, 114, 107, 32, 106, 117, 100, 103, 101, 32, 110, 111, 98, 111, 100, 121, 32, 109, 117, 116, 101, 32, 99, 104, 105, 108, 100, 32, 115, 97, 121, 105, 110, 103, 32, 116, 97, 108, 107, 32, 116, 114, 117, 115, 116, 32, 113, 117, 105, 101, 116, 32]]
def sg_Rt : List (String × Nat × String × Nat) := [("NobodySaidModel", 27, "person", 0), ("NobodySaidModel", 29, "gossip", 1), ("NobodySaidModel", 31, "clerk", 2), ("NobodySaidModel", 33, "judge", 3), ("NobodySaidModel", 35, "nobody", 4), ("NobodySaidModel", 37, "mute", 5), ("NobodySaidModel", 39, "child", 6), ("NobodySaidModel", 294, "trust", 7), ("NobodySaidModel", 302, "quiet", 8), ("NobodySaidModel", 314, "saying", 9), ("NobodySaidModel", 319, "talk", 10), ("NobodySaid$Tape", 58, "person gossip clerk judge nobody mute child saying talk trust quiet ", 11)]
/-- what never changes: String constants, statics, the script -/
def sg_T (G : sg_G) (U : State) (H : Heap) : Prop :=
  vk_S 12 sg_len sg_byt (fun i => sg_ad G (100 + i)) (fun i => sg_ad G (120 + i)) (sg_Ad G) U H ∧ va_Z "java/lang/String" "COMPACT_STRINGS" "Z" (.int 1) (sg_Ad G) U H ∧
  va_Z "jdk/internal/util/Preconditions" "SIOOBE_FORMATTER" "Ljava/util/function/BiFunction;" G.2.2.2.1 (sg_Ad G) U H ∧ va_X (sg_ad G 99) G.2.2.2.2.1 G.2.2.2.2.2 U H ∧ sg_ad G 99 < H.size ∧ ¬ sg_Ad G (sg_ad G 99)
def sg_R (G : sg_G) (U : State) : Prop := (∀ q ∈ sg_Rt, vk_R q.1 q.2.1 q.2.2.1 (sg_ad G (100 + q.2.2.2)) U) ∧ va_Nw (.methodLinkNest RX0 62 yX4_within RX4) U ∧ G.2.2.2.1.category = 1
theorem sg_T.moved {G : sg_G} {u U : State} {H : Heap} (hvm : u.vm.Alike U.vm) (h : sg_T G u H) : sg_T G U H :=
  ⟨vk_S.moved hvm h.1, va_Z.moved hvm h.2.1, va_Z.moved hvm h.2.2.1, va_X.moved hvm h.2.2.2.1, h.2.2.2.2⟩
theorem sg_T.kept {G : sg_G} {U : State} {H H1 : Heap} (h : sg_T G U H) (hz : H.size ≤ H1.size) (hq : ∀ a : Nat, a < H.size → ¬ sg_Ad G a → H1[a]? = H[a]?) : sg_T G U H1 :=
  ⟨h.1.kept hq, h.2.1.kept hq, h.2.2.1.kept hq, h.2.2.2.1.kept (hq _ h.2.2.2.2.1 h.2.2.2.2.2), Nat.lt_of_lt_of_le h.2.2.2.2.1 hz, h.2.2.2.2.2⟩
theorem sg_R.warm {G : sg_G} {s U : State} (hW : s.WarmedH U.vm) (h : sg_R G s) : sg_R G U := ⟨fun q hq => (h.1 q hq).warm hW, h.2.1.warmM hW, h.2.2⟩
theorem sg_R.same {G : sg_G} {u U : State} (hv : U.vm = u.vm) (h : sg_R G u) : sg_R G U := ⟨fun q hq => (h.1 q hq).same hv, h.2.1.same rfl hv.symm, h.2.2⟩
/-- the world of a call -/
def sg_Wd (G : sg_G) (σ : sg_S) (U : State) : Prop := va_P G.1 vwCl (sg_W G σ) U.heap ∧ va_K G.1 vwCl (sg_ty G) U ∧ va_D (sg_Ad G) (sg_W G σ) ∧ sg_T G U U.heap ∧ sg_R G U
def sg_Q (G : sg_G) (r : Option Value × sg_S) : Array Value → State → Outcome → State → Prop := fun _ st o t => o = .returned (r.1.map (sg_v G)) ∧ va_P G.1 vwCl (sg_W G r.2) t.heap ∧ va_F (sg_Ad G) st t
theorem sg_Wd.blind (av : List Value) (G : sg_G) (σ : sg_S) : FrameBlind (va_Pc av (sg_Wd G σ)) := by
  intro a U g mk h
  obtain ⟨h0, h1, h2, h3, h4, h5⟩ := h
  exact ⟨h0, h1, va_K.moved (u := U) (U := U.calling g mk a) (Vm.Alike.refl U.vm) h2, h3, sg_T.moved (u := U) (U := U.calling g mk a) (Vm.Alike.refl U.vm) h4, h5.same rfl⟩
/-- the machine's context of a frame -/
def sg_Cx (M : sg_M) (G : sg_G) (p : Program) (s : State) (m : MethodId) (args : Array Value) (meth : Method) (c : Code) : Prop :=
  p.tables.exec = Jvm.exec ∧ c.code = M.2.1 ∧ c.maxLocals = M.2.2.1 ∧ s.vm.findClass M.1 = some m.cls ∧ (∀ w ∈ tw, w.before args s = true) ∧ va_K G.1 vwCl (sg_ty G) s ∧ sg_T G s s.heap ∧ sg_R G s
def sg_H (G : sg_G) (σ : sg_S) (s : State) (H : Heap) (locs : List Loc) : Prop := va_P G.1 vwCl (sg_W G σ) H ∧ va_D (sg_Ad G) (sg_W G σ) ∧ va_S (sg_Ad G) s.heap H locs
def sg_L (G : sg_G) (n : Nat) (lsA : Array Slot) (ls : List (Option Value)) : Prop := lsA.size = n ∧ lv_wf lsA ∧ ∀ (i : Nat) (v : Value), ls[i]? = some (some v) → lsA[i]? = some (.val (sg_v G v))
def sg_ri (v : Option Value) : Instr := match v with
  | none => .return_
  | some (.long _) => .lreturn
  | _ => .ireturn
/-- how a stretch ends: the method returns, or it comes to a place with an empty stack -/
abbrev sg_X : Type := (Option Value × sg_S) ⊕ (Nat × List (Option Value) × sg_S)
def sg_Fin (M : sg_M) (R : Room) (l : Launch) (G : sg_G) (p : Program) (e : Env) (s : State) (m : MethodId) (args : Array Value) (below : List Frame) (meth : Method) (c : Code) (cells slots : Nat) (Q : State → Prop) (x : sg_X) : Prop := match x with
  | .inl r => ∀ (H' : Heap) (locs' : List Loc) (lsA' : Array Slot) (pc' : Nat), sg_H G r.2 s H' locs' → (∀ v ty, r.1 = some (.int v) → M.2.2.2 = some ty → narrow ty (.int v) = .int v) → decode M.2.1 pc' = .ok (sg_ri r.1, 1) →
    W p l e R s m args below meth c H' locs' cells slots Q (F0 m pc' lsA' (r.1.map (sg_v G)).toList)
  | .inr q => ∀ (H' : Heap) (locs' : List Loc) (lsA' : Array Slot), sg_H G q.2.2 s H' locs' → sg_L G M.2.2.1 lsA' q.2.1 → W p l e R s m args below meth c H' locs' cells slots Q (F0 m q.1 lsA' [])
/-- THE JUDGEMENT: from this frame, over the state σ, the stretch ends with what X tells -/
def Ev (M : sg_M) (R : Room) (pc : Nat) (ls : List (Option Value)) (st : List Value) (σ : sg_S) {α : Type} (emb : α → sg_X) (X : Option α) : Prop :=
  ∀ a : α, X = some a → ∀ (l : Launch) (G : sg_G) (p : Program) (e : Env) (s : State) (m : MethodId) (args : Array Value) (below : List Frame) (meth : Method) (c : Code) (H : Heap) (locs : List Loc) (lsA : Array Slot) (cells slots : Nat) (Q : State → Prop),
    sg_Cx M G p s m args meth c → sg_H G σ s H locs → sg_L G M.2.2.1 lsA ls → cells ≤ R.cells ∧ slots ≤ R.slots → sg_Fin M R l G p e s m args below meth c cells slots Q (emb a) → W p l e R s m args below meth c H locs cells slots Q (F0 m pc lsA (st.map (sg_v G)))
/-- an instruction at its place, with the next one's -/
def Ins (M : sg_M) (pc nx len : Nat) (i : Instr) : Prop := decode M.2.1 pc = .ok (i, len) ∧ pc + len = nx
/-- a jump, with its target -/
def InB (M : sg_M) (pc nx tgt : Nat) (i : Int → Instr) : Prop := decode M.2.1 pc = .ok (i ((tgt : Int) - (pc : Int)), 3) ∧ pc + 3 = nx
end
section
def jrem (x y : Int32) : Int32 := x - x / y * y
def jshl (x y : Int32) : Int32 := x <<< (y &&& 31)
def jshr (x y : Int32) : Int32 := x >>> (y &&& 31)
def jushr (x y : Int32) : Int32 := (x.toUInt32 >>> (y.toUInt32 &&& Int32.toUInt32 31)).toInt32
section RW
variable {M : sg_M} {R : Room} {pc nx tgt : Nat} {ls : List (Option Value)} {st : List Value} {σ : sg_S} {α : Type} {emb : α → sg_X} {X Y : Option α}
theorem ev_none : Ev M R pc ls st σ emb none := fun a h => by cases h

theorem ev_iconst {n : Int} {v : Int32} (hd : Ins M pc nx 1 (.iconst n)) (hv : Int32.ofInt n = v) (k : Ev M R nx ls (.int v :: st) σ emb X) : Ev M R pc ls st σ emb X := by
  intro a ha l G p e s m args below meth c H locs lsA cells slots Q C hH hL hc hF
  obtain ⟨h1, rfl⟩ := hd
  exact lv_iconst C.1 C.2.1 h1 hv (k a ha l G p e s m args below meth c H locs lsA cells slots Q C hH hL hc hF)

theorem ev_bipush {n : Int} {v : Int32} (hd : Ins M pc nx 2 (.bipush n)) (hv : (Int8.ofInt n).toInt32 = v) (k : Ev M R nx ls (.int v :: st) σ emb X) : Ev M R pc ls st σ emb X := by
  intro a ha l G p e s m args below meth c H locs lsA cells slots Q C hH hL hc hF
  obtain ⟨h1, rfl⟩ := hd
  exact lv_bipush C.1 C.2.1 h1 hv (k a ha l G p e s m args below meth c H locs lsA cells slots Q C hH hL hc hF)

theorem ev_sipush {n : Int} {v : Int32} (hd : Ins M pc nx 3 (.sipush n)) (hv : (Int16.ofInt n).toInt32 = v) (k : Ev M R nx ls (.int v :: st) σ emb X) : Ev M R pc ls st σ emb X := by
  intro a ha l G p e s m args below meth c H locs lsA cells slots Q C hH hL hc hF
  obtain ⟨h1, rfl⟩ := hd
  exact lv_sipush C.1 C.2.1 h1 hv (k a ha l G p e s m args below meth c H locs lsA cells slots Q C hH hL hc hF)

theorem ev_lconst {n : Fin 2} {v : Int64} (hd : Ins M pc nx 1 (.lconst n)) (hv : Int64.ofNat (n : Nat) = v) (k : Ev M R nx ls (.long v :: st) σ emb X) : Ev M R pc ls st σ emb X := by
  intro a ha l G p e s m args below meth c H locs lsA cells slots Q C hH hL hc hF
  obtain ⟨h1, rfl⟩ := hd
  exact lv_lconst C.1 C.2.1 h1 hv (k a ha l G p e s m args below meth c H locs lsA cells slots Q C hH hL hc hF)

theorem ev_ldc {index : Nat} {v : Int32} (hd : Ins M pc nx 2 (.ldc index)) (hw : Cond.constant M.1 index v ∈ tw) (k : Ev M R nx ls (.int v :: st) σ emb X) : Ev M R pc ls st σ emb X := by
  intro a ha l G p e s m args below meth c H locs lsA cells slots Q C hH hL hc hF
  obtain ⟨h1, rfl⟩ := hd
  exact W.ldc C.1 C.2.1 C.2.2.2.1 (C.2.2.2.2.1 _ hw) rfl h1 (k a ha l G p e s m args below meth c H locs lsA cells slots Q C hH hL hc hF)

theorem ev_ldcw {index : Nat} {v : Int32} (hd : Ins M pc nx 3 (.ldc_w index)) (hw : Cond.constant M.1 index v ∈ tw) (k : Ev M R nx ls (.int v :: st) σ emb X) : Ev M R pc ls st σ emb X := by
  intro a ha l G p e s m args below meth c H locs lsA cells slots Q C hH hL hc hF
  obtain ⟨h1, rfl⟩ := hd
  exact lv_ldcw C.1 C.2.1 C.2.2.2.1 (C.2.2.2.2.1 _ hw) h1 (k a ha l G p e s m args below meth c H locs lsA cells slots Q C hH hL hc hF)

theorem ev_ldcS {index : Nat} {tx : String} {i : Nat} (hd : Ins M pc nx 2 (.ldc index)) (hw : (M.1, index, tx, i) ∈ sg_Rt) (hi : i < 12) (k : Ev M R nx ls (.ref (100 + i) :: st) σ emb X) : Ev M R pc ls st σ emb X := by
  intro a ha l G p e s m args below meth c H locs lsA cells slots Q C hH hL hc hF
  obtain ⟨h1, rfl⟩ := hd
  have kk := k a ha l G p e s m args below meth c H locs lsA cells slots Q C hH hL hc hF
  rw [List.map_cons, sg_v_ref G (by omega)] at kk
  exact va_ldcS C.1 C.2.1 C.2.2.2.1 (C.2.2.2.2.2.2.2.1 _ hw) h1 kk

theorem ev_ldcwS {index : Nat} {tx : String} {i : Nat} (hd : Ins M pc nx 3 (.ldc_w index)) (hw : (M.1, index, tx, i) ∈ sg_Rt) (hi : i < 12) (k : Ev M R nx ls (.ref (100 + i) :: st) σ emb X) : Ev M R pc ls st σ emb X := by
  intro a ha l G p e s m args below meth c H locs lsA cells slots Q C hH hL hc hF
  obtain ⟨h1, rfl⟩ := hd
  have kk := k a ha l G p e s m args below meth c H locs lsA cells slots Q C hH hL hc hF
  rw [List.map_cons, sg_v_ref G (by omega)] at kk
  intro T hT X0
  obtain ⟨t, a1, b1⟩ := kk T hT X0
  have hZ := C.2.2.2.2.2.2.2.1 _ hw
  exact ⟨t, X0.ldcStringW C.1 C.2.2.2.1 (text := tx) (a := sg_ad G (100 + i)) hZ.1 hZ.2 (g := F0 m pc lsA (st.map (sg_v G))) rfl (by rw [C.2.1]; exact h1) t a1, b1⟩

theorem ev_iload_n {k0 : Fin 4} {i : Nat} {x : Int32} (hd : Ins M pc nx 1 (.iload_n k0)) (hi : (k0 : Nat) = i) (hl : ls[i]? = some (some (.int x))) (k : Ev M R nx ls (.int x :: st) σ emb X) : Ev M R pc ls st σ emb X := by
  intro a ha l G p e s m args below meth c H locs lsA cells slots Q C hH hL hc hF
  obtain ⟨h1, rfl⟩ := hd
  exact lv_iload_n C.1 C.2.1 h1 hi (hL.2.2 i _ hl) (k a ha l G p e s m args below meth c H locs lsA cells slots Q C hH hL hc hF)

theorem ev_iload {i : Nat} {x : Int32} (hd : Ins M pc nx 2 (.iload i)) (hl : ls[i]? = some (some (.int x))) (k : Ev M R nx ls (.int x :: st) σ emb X) : Ev M R pc ls st σ emb X := by
  intro a ha l G p e s m args below meth c H locs lsA cells slots Q C hH hL hc hF
  obtain ⟨h1, rfl⟩ := hd
  exact lv_iload C.1 C.2.1 h1 (hL.2.2 i _ hl) (k a ha l G p e s m args below meth c H locs lsA cells slots Q C hH hL hc hF)

theorem ev_lload_n {k0 : Fin 4} {i : Nat} {x : Int64} (hd : Ins M pc nx 1 (.lload_n k0)) (hi : (k0 : Nat) = i) (hl : ls[i]? = some (some (.long x))) (k : Ev M R nx ls (.long x :: st) σ emb X) : Ev M R pc ls st σ emb X := by
  intro a ha l G p e s m args below meth c H locs lsA cells slots Q C hH hL hc hF
  obtain ⟨h1, rfl⟩ := hd
  exact lv_lload_n C.1 C.2.1 h1 hi (hL.2.2 i _ hl) (k a ha l G p e s m args below meth c H locs lsA cells slots Q C hH hL hc hF)

theorem ev_lload {i : Nat} {x : Int64} (hd : Ins M pc nx 2 (.lload i)) (hl : ls[i]? = some (some (.long x))) (k : Ev M R nx ls (.long x :: st) σ emb X) : Ev M R pc ls st σ emb X := by
  intro a ha l G p e s m args below meth c H locs lsA cells slots Q C hH hL hc hF
  obtain ⟨h1, rfl⟩ := hd
  exact lv_lload C.1 C.2.1 h1 (hL.2.2 i _ hl) (k a ha l G p e s m args below meth c H locs lsA cells slots Q C hH hL hc hF)

theorem ev_aload_n {k0 : Fin 4} {i k1 : Nat} (hd : Ins M pc nx 1 (.aload_n k0)) (hi : (k0 : Nat) = i) (hk : k1 ≠ 140) (hl : ls[i]? = some (some (.ref k1))) (k : Ev M R nx ls (.ref k1 :: st) σ emb X) : Ev M R pc ls st σ emb X := by
  intro a ha l G p e s m args below meth c H locs lsA cells slots Q C hH hL hc hF
  obtain ⟨h1, rfl⟩ := hd
  have kk := k a ha l G p e s m args below meth c H locs lsA cells slots Q C hH hL hc hF
  have h2 := hL.2.2 i _ hl
  rw [List.map_cons, sg_v_ref G hk] at kk
  rw [sg_v_ref G hk] at h2
  exact lv_aload_n C.1 C.2.1 h1 hi h2 kk

theorem ev_aload {i k1 : Nat} (hd : Ins M pc nx 2 (.aload i)) (hk : k1 ≠ 140) (hl : ls[i]? = some (some (.ref k1))) (k : Ev M R nx ls (.ref k1 :: st) σ emb X) : Ev M R pc ls st σ emb X := by
  intro a ha l G p e s m args below meth c H locs lsA cells slots Q C hH hL hc hF
  obtain ⟨h1, rfl⟩ := hd
  have kk := k a ha l G p e s m args below meth c H locs lsA cells slots Q C hH hL hc hF
  have h2 := hL.2.2 i _ hl
  rw [List.map_cons, sg_v_ref G hk] at kk
  rw [sg_v_ref G hk] at h2
  exact lv_aload C.1 C.2.1 h1 h2 kk

theorem sg_pairs {G : sg_G} {n : Nat} {lsA : Array Slot} {ls : List (Option Value)} (h : sg_L G n lsA ls) (l : List (Nat × Value)) (hl : ∀ q ∈ l, ls[q.1]? = some (some q.2)) : lv_has lsA n (l.map fun q => (q.1, sg_v G q.2)) := by
  refine ⟨h.1, h.2.1, fun q hq => ?_⟩
  obtain ⟨q0, h0, rfl⟩ := List.mem_map.mp hq
  exact h.2.2 _ _ (hl q0 h0)
/-- the known locals, as pairs -/
def sg_pr : List (Option Value) → Nat → List (Nat × Value)
  | [], _ => []
  | none :: l, i => sg_pr l (i + 1)
  | some v :: l, i => (i, v) :: sg_pr l (i + 1)
theorem sg_pr_mem : ∀ (l : List (Option Value)) (j : Nat) (q : Nat × Value), q ∈ sg_pr l j → ∃ i, q.1 = j + i ∧ l[i]? = some (some q.2)
  | [], _, _, h => by simp [sg_pr] at h
  | none :: l, j, q, h => by
    obtain ⟨i, h1, h2⟩ := sg_pr_mem l (j + 1) q h
    exact ⟨i + 1, by omega, by simpa using h2⟩
  | some v :: l, j, q, h => by
    rcases List.mem_cons.mp h with rfl | h
    · exact ⟨0, rfl, rfl⟩
    · obtain ⟨i, h1, h2⟩ := sg_pr_mem l (j + 1) q h
      exact ⟨i + 1, by omega, by simpa using h2⟩
theorem sg_pr_in : ∀ (l : List (Option Value)) (j i : Nat) (v : Value), l[i]? = some (some v) → (j + i, v) ∈ sg_pr l j
  | [], _, _, _, h => by simp at h
  | none :: l, j, 0, v, h => by simp at h
  | some w :: l, j, 0, v, h => by simp at h; subst h; exact List.mem_cons_self
  | none :: l, j, i + 1, v, h => by
    have := sg_pr_in l (j + 1) i v (by simpa using h)
    rw [show j + 1 + i = j + (i + 1) by omega] at this
    exact this
  | some w :: l, j, i + 1, v, h => by
    have := sg_pr_in l (j + 1) i v (by simpa using h)
    rw [show j + 1 + i = j + (i + 1) by omega] at this
    exact List.mem_cons_of_mem _ this
theorem sg_L_has {G : sg_G} {n : Nat} {lsA : Array Slot} {ls : List (Option Value)} (h : sg_L G n lsA ls) : lv_has lsA n ((sg_pr ls 0).map fun q => (q.1, sg_v G q.2)) := by
  refine sg_pairs h _ fun q hq => ?_
  obtain ⟨i, h1, h2⟩ := sg_pr_mem ls 0 q hq
  rw [h1, Nat.zero_add]
  exact h2
/-- no category 2 value ahead of place i -/
def sg_ok1 (ls : List (Option Value)) (i : Nat) : Prop := ∀ v, i ≠ 0 → ls[i - 1]? = some (some v) → v.category = 1
theorem sg_L_of1 {G : sg_G} {n i : Nat} {lsB : Array Slot} {ls : List (Option Value)} {v : Value} (hlt : i < ls.length) (ho : ∀ w, i ≠ 0 → ls[i - 1]? = some (some w) → (sg_v G w).category = 1)
    (h : lv_has lsB n ((i, sg_v G v) :: ((sg_pr ls 0).map fun q => (q.1, sg_v G q.2)).filter (fun q => !(q.1 == i) && !(q.1 + 1 == i && q.2.category == 2)))) : sg_L G n lsB (ls.set i (some v)) := by
  refine ⟨h.1, h.2.1, fun j w hj => ?_⟩
  rw [List.getElem?_set] at hj
  by_cases e : i = j
  · subst e
    rw [if_pos rfl, if_pos hlt] at hj
    cases hj
    exact h.2.2 (i, sg_v G v) List.mem_cons_self
  · rw [if_neg e] at hj
    have h1 := sg_pr_in ls 0 j w hj
    rw [Nat.zero_add] at h1
    refine h.2.2 (j, sg_v G w) (List.mem_cons_of_mem _ (List.mem_filter.mpr ⟨List.mem_map.mpr ⟨(j, w), h1, rfl⟩, ?_⟩))
    have h2 : ¬ (j == i) = true := by simp; exact fun q => e q.symm
    have h3 : ¬ ((j + 1 == i && (sg_v G w).category == 2) = true) := by
      intro q
      simp at q
      have := ho w (by omega) (by rw [← q.1]; exact hj)
      omega
    simp only [Bool.not_eq_true] at h2 h3
    simp [h2, h3]
theorem sg_L_of2 {G : sg_G} {n i : Nat} {lsB : Array Slot} {ls : List (Option Value)} {v : Value} (hlt : i < ls.length) (ho : ∀ w, i ≠ 0 → ls[i - 1]? = some (some w) → (sg_v G w).category = 1)
    (h : lv_has lsB n ((i, sg_v G v) :: ((sg_pr ls 0).map fun q => (q.1, sg_v G q.2)).filter (fun q => !(q.1 == i) && (!(q.1 == i + 1) && !(q.1 + 1 == i && q.2.category == 2))))) : sg_L G n lsB ((ls.set i (some v)).set (i + 1) none) := by
  refine ⟨h.1, h.2.1, fun j w hj => ?_⟩
  rw [List.getElem?_set] at hj
  by_cases e1 : i + 1 = j
  · subst e1
    rw [if_pos rfl] at hj
    split at hj <;> simp at hj
  rw [if_neg e1, List.getElem?_set] at hj
  by_cases e : i = j
  · subst e
    rw [if_pos rfl, if_pos hlt] at hj
    cases hj
    exact h.2.2 (i, sg_v G v) List.mem_cons_self
  · rw [if_neg e] at hj
    have h1 := sg_pr_in ls 0 j w hj
    rw [Nat.zero_add] at h1
    refine h.2.2 (j, sg_v G w) (List.mem_cons_of_mem _ (List.mem_filter.mpr ⟨List.mem_map.mpr ⟨(j, w), h1, rfl⟩, ?_⟩))
    have h2 : ¬ (j == i) = true := by simp; exact fun q => e q.symm
    have h4 : ¬ (j == i + 1) = true := by simp; exact fun q => e1 q.symm
    have h3 : ¬ ((j + 1 == i && (sg_v G w).category == 2) = true) := by
      intro q
      simp at q
      have := ho w (by omega) (by rw [← q.1]; exact hj)
      omega
    simp only [Bool.not_eq_true] at h2 h3 h4
    simp [h2, h3, h4]
/-- what a store asks of the locals ahead of its place: an int, or nothing known, or a reference of ours -/
def sg_o1 : List (Option Value) → Nat → Bool
  | _, 0 => true
  | ls, i + 1 => match ls[i]? with
    | some (some (.int _)) => true
    | some (some (.ref _)) => true
    | some (some _) => false
    | _ => true
theorem sg_cat1 {G : sg_G} (h : G.2.2.2.1.category = 1) : ∀ v : Value, (∃ x, v = .int x) ∨ (∃ k, v = .ref k) → (sg_v G v).category = 1 := by
  rintro v (⟨x, rfl⟩ | ⟨k, rfl⟩)
  · rfl
  · by_cases hk : k = 140
    · simp only [sg_v, hk, if_true]; exact h
    · rw [sg_v_ref G hk]; rfl
theorem sg_o1_ok {G : sg_G} (hf : G.2.2.2.1.category = 1) {ls : List (Option Value)} {i : Nat} (h : sg_o1 ls i = true) : ∀ w, i ≠ 0 → ls[i - 1]? = some (some w) → (sg_v G w).category = 1 := by
  intro w hi hw
  cases i with
  | zero => exact absurd rfl hi
  | succ i =>
    simp only [Nat.add_sub_cancel] at hw
    simp only [sg_o1, hw] at h
    cases w with
    | int x => rfl
    | ref k => exact sg_cat1 hf _ (Or.inr ⟨k, rfl⟩)
    | long x => simp at h
    | float x => simp at h
    | double x => simp at h
    | null => simp at h
    | retAddr x => simp at h

theorem ev_istore_n {k0 : Fin 4} {i : Nat} {x : Int32} (hd : Ins M pc nx 1 (.istore_n k0)) (hi : (k0 : Nat) = i) (hn : i < M.2.2.1) (hlt : i < ls.length) (ho : sg_o1 ls i = true) {ls2 : List (Option Value)} (h2 : (ls.set i (some (.int x))) = ls2) (k : Ev M R nx ls2 st σ emb X) : Ev M R pc ls (.int x :: st) σ emb X := by
  intro a ha l G p e s m args below meth c H locs lsA cells slots Q C hH hL hc hF
  obtain ⟨h1, rfl⟩ := hd
  subst h2
  exact lv_istore_n C.1 C.2.1 h1 hi (sg_L_has hL) hn rfl (fun lsB hB => k a ha l G p e s m args below meth c H locs lsB cells slots Q C hH (sg_L_of1 hlt (sg_o1_ok C.2.2.2.2.2.2.2.2.2 ho) hB) hc hF)

theorem ev_istore {i : Nat} {x : Int32} (hd : Ins M pc nx 2 (.istore i)) (hn : i < M.2.2.1) (hlt : i < ls.length) (ho : sg_o1 ls i = true) {ls2 : List (Option Value)} (h2 : (ls.set i (some (.int x))) = ls2) (k : Ev M R nx ls2 st σ emb X) : Ev M R pc ls (.int x :: st) σ emb X := by
  intro a ha l G p e s m args below meth c H locs lsA cells slots Q C hH hL hc hF
  obtain ⟨h1, rfl⟩ := hd
  subst h2
  exact lv_istore C.1 C.2.1 h1 (sg_L_has hL) hn rfl (fun lsB hB => k a ha l G p e s m args below meth c H locs lsB cells slots Q C hH (sg_L_of1 hlt (sg_o1_ok C.2.2.2.2.2.2.2.2.2 ho) hB) hc hF)

theorem ev_lstore_n {k0 : Fin 4} {i : Nat} {x : Int64} (hd : Ins M pc nx 1 (.lstore_n k0)) (hi : (k0 : Nat) = i) (hn : i + 1 < M.2.2.1) (hlt : i < ls.length) (ho : sg_o1 ls i = true) {ls2 : List (Option Value)} (h2 : ((ls.set i (some (.long x))).set (i + 1) none) = ls2) (k : Ev M R nx ls2 st σ emb X) : Ev M R pc ls (.long x :: st) σ emb X := by
  intro a ha l G p e s m args below meth c H locs lsA cells slots Q C hH hL hc hF
  obtain ⟨h1, rfl⟩ := hd
  subst h2
  exact lv_lstore_n C.1 C.2.1 h1 hi (sg_L_has hL) hn rfl (fun lsB hB => k a ha l G p e s m args below meth c H locs lsB cells slots Q C hH (sg_L_of2 hlt (sg_o1_ok C.2.2.2.2.2.2.2.2.2 ho) hB) hc hF)

theorem ev_lstore {i : Nat} {x : Int64} (hd : Ins M pc nx 2 (.lstore i)) (hn : i + 1 < M.2.2.1) (hlt : i < ls.length) (ho : sg_o1 ls i = true) {ls2 : List (Option Value)} (h2 : ((ls.set i (some (.long x))).set (i + 1) none) = ls2) (k : Ev M R nx ls2 st σ emb X) : Ev M R pc ls (.long x :: st) σ emb X := by
  intro a ha l G p e s m args below meth c H locs lsA cells slots Q C hH hL hc hF
  obtain ⟨h1, rfl⟩ := hd
  subst h2
  exact lv_lstore C.1 C.2.1 h1 (sg_L_has hL) hn rfl (fun lsB hB => k a ha l G p e s m args below meth c H locs lsB cells slots Q C hH (sg_L_of2 hlt (sg_o1_ok C.2.2.2.2.2.2.2.2.2 ho) hB) hc hF)

theorem ev_astore_n {k0 : Fin 4} {i : Nat} {x : Nat} (hd : Ins M pc nx 1 (.astore_n k0)) (hi : (k0 : Nat) = i) (hk : x ≠ 140) (hn : i < M.2.2.1) (hlt : i < ls.length) (ho : sg_o1 ls i = true) {ls2 : List (Option Value)} (h2 : (ls.set i (some (.ref x))) = ls2) (k : Ev M R nx ls2 st σ emb X) : Ev M R pc ls (.ref x :: st) σ emb X := by
  intro a ha l G p e s m args below meth c H locs lsA cells slots Q C hH hL hc hF
  obtain ⟨h1, rfl⟩ := hd
  subst h2
  rw [List.map_cons, sg_v_ref G hk]
  exact lv_astore_n C.1 C.2.1 h1 hi (sg_L_has hL) hn rfl (fun lsB hB => k a ha l G p e s m args below meth c H locs lsB cells slots Q C hH (sg_L_of1 hlt (sg_o1_ok C.2.2.2.2.2.2.2.2.2 ho) (by rw [sg_v_ref G hk]; exact hB)) hc hF)

theorem ev_astore {i : Nat} {x : Nat} (hd : Ins M pc nx 2 (.astore i)) (hk : x ≠ 140) (hn : i < M.2.2.1) (hlt : i < ls.length) (ho : sg_o1 ls i = true) {ls2 : List (Option Value)} (h2 : (ls.set i (some (.ref x))) = ls2) (k : Ev M R nx ls2 st σ emb X) : Ev M R pc ls (.ref x :: st) σ emb X := by
  intro a ha l G p e s m args below meth c H locs lsA cells slots Q C hH hL hc hF
  obtain ⟨h1, rfl⟩ := hd
  subst h2
  rw [List.map_cons, sg_v_ref G hk]
  exact lv_astore C.1 C.2.1 h1 (sg_L_has hL) hn rfl (fun lsB hB => k a ha l G p e s m args below meth c H locs lsB cells slots Q C hH (sg_L_of1 hlt (sg_o1_ok C.2.2.2.2.2.2.2.2.2 ho) (by rw [sg_v_ref G hk]; exact hB)) hc hF)

theorem ev_iinc {i : Nat} {n : Int} {x v : Int32} (hd : Ins M pc nx 3 (.iinc i n)) (hl : ls[i]? = some (some (.int x))) (hv : x + Int32.ofInt n = v) (hn : i < M.2.2.1) (ho : sg_o1 ls i = true) {ls2 : List (Option Value)} (h2 : (ls.set i (some (.int v))) = ls2) (k : Ev M R nx ls2 st σ emb X) : Ev M R pc ls st σ emb X := by
  intro a ha l G p e s m args below meth c H locs lsA cells slots Q C hH hL hc hF
  obtain ⟨h1, rfl⟩ := hd
  subst h2
  have hlt : i < ls.length := (List.getElem?_eq_some_iff.mp hl).1
  have hm := sg_pr_in ls 0 i _ hl
  rw [Nat.zero_add] at hm
  have hm2 : (i, Value.int x) ∈ (sg_pr ls 0).map fun q => (q.1, sg_v G q.2) := List.mem_map.mpr ⟨_, hm, rfl⟩
  obtain ⟨k0, hk0⟩ := List.getElem?_of_mem hm2
  exact lv_iinc C.1 C.2.1 h1 (sg_L_has hL) (k := k0) hk0 hv hn rfl (fun lsB hB => k a ha l G p e s m args below meth c H locs lsB cells slots Q C hH (sg_L_of1 hlt (sg_o1_ok C.2.2.2.2.2.2.2.2.2 ho) hB) hc hF)

theorem ev_iadd {x y : Int32} (hd : Ins M pc nx 1 .iadd) (k : Ev M R nx ls (.int (x + y) :: st) σ emb X) : Ev M R pc ls (.int y :: .int x :: st) σ emb X := by
  intro a ha l G p e s m args below meth c H locs lsA cells slots Q C hH hL hc hF
  obtain ⟨h1, rfl⟩ := hd
  exact lv_iadd C.1 C.2.1 h1 (k a ha l G p e s m args below meth c H locs lsA cells slots Q C hH hL hc hF)

theorem ev_isub {x y : Int32} (hd : Ins M pc nx 1 .isub) (k : Ev M R nx ls (.int (x - y) :: st) σ emb X) : Ev M R pc ls (.int y :: .int x :: st) σ emb X := by
  intro a ha l G p e s m args below meth c H locs lsA cells slots Q C hH hL hc hF
  obtain ⟨h1, rfl⟩ := hd
  exact lv_isub C.1 C.2.1 h1 (k a ha l G p e s m args below meth c H locs lsA cells slots Q C hH hL hc hF)

theorem ev_imul {x y : Int32} (hd : Ins M pc nx 1 .imul) (k : Ev M R nx ls (.int (x * y) :: st) σ emb X) : Ev M R pc ls (.int y :: .int x :: st) σ emb X := by
  intro a ha l G p e s m args below meth c H locs lsA cells slots Q C hH hL hc hF
  obtain ⟨h1, rfl⟩ := hd
  exact lv_imul C.1 C.2.1 h1 (k a ha l G p e s m args below meth c H locs lsA cells slots Q C hH hL hc hF)

theorem ev_iand {x y : Int32} (hd : Ins M pc nx 1 .iand) (k : Ev M R nx ls (.int (x &&& y) :: st) σ emb X) : Ev M R pc ls (.int y :: .int x :: st) σ emb X := by
  intro a ha l G p e s m args below meth c H locs lsA cells slots Q C hH hL hc hF
  obtain ⟨h1, rfl⟩ := hd
  exact lv_iand C.1 C.2.1 h1 (k a ha l G p e s m args below meth c H locs lsA cells slots Q C hH hL hc hF)

theorem ev_ior {x y : Int32} (hd : Ins M pc nx 1 .ior) (k : Ev M R nx ls (.int (x ||| y) :: st) σ emb X) : Ev M R pc ls (.int y :: .int x :: st) σ emb X := by
  intro a ha l G p e s m args below meth c H locs lsA cells slots Q C hH hL hc hF
  obtain ⟨h1, rfl⟩ := hd
  exact lv_ior C.1 C.2.1 h1 (k a ha l G p e s m args below meth c H locs lsA cells slots Q C hH hL hc hF)

theorem ev_ixor {x y : Int32} (hd : Ins M pc nx 1 .ixor) (k : Ev M R nx ls (.int (x ^^^ y) :: st) σ emb X) : Ev M R pc ls (.int y :: .int x :: st) σ emb X := by
  intro a ha l G p e s m args below meth c H locs lsA cells slots Q C hH hL hc hF
  obtain ⟨h1, rfl⟩ := hd
  exact lv_ixor C.1 C.2.1 h1 (k a ha l G p e s m args below meth c H locs lsA cells slots Q C hH hL hc hF)

theorem ev_ishl {x y : Int32} (hd : Ins M pc nx 1 .ishl) (k : Ev M R nx ls (.int (jshl x y) :: st) σ emb X) : Ev M R pc ls (.int y :: .int x :: st) σ emb X := by
  intro a ha l G p e s m args below meth c H locs lsA cells slots Q C hH hL hc hF
  obtain ⟨h1, rfl⟩ := hd
  exact lv_ishl C.1 C.2.1 h1 (k a ha l G p e s m args below meth c H locs lsA cells slots Q C hH hL hc hF)

theorem ev_ishr {x y : Int32} (hd : Ins M pc nx 1 .ishr) (k : Ev M R nx ls (.int (jshr x y) :: st) σ emb X) : Ev M R pc ls (.int y :: .int x :: st) σ emb X := by
  intro a ha l G p e s m args below meth c H locs lsA cells slots Q C hH hL hc hF
  obtain ⟨h1, rfl⟩ := hd
  exact lv_ishr C.1 C.2.1 h1 (k a ha l G p e s m args below meth c H locs lsA cells slots Q C hH hL hc hF)

theorem ev_iushr {x y : Int32} (hd : Ins M pc nx 1 .iushr) (k : Ev M R nx ls (.int (jushr x y) :: st) σ emb X) : Ev M R pc ls (.int y :: .int x :: st) σ emb X := by
  intro a ha l G p e s m args below meth c H locs lsA cells slots Q C hH hL hc hF
  obtain ⟨h1, rfl⟩ := hd
  exact lv_iushr C.1 C.2.1 h1 rfl (k a ha l G p e s m args below meth c H locs lsA cells slots Q C hH hL hc hF)

theorem ev_ineg {x : Int32} (hd : Ins M pc nx 1 .ineg) (k : Ev M R nx ls (.int (-x) :: st) σ emb X) : Ev M R pc ls (.int x :: st) σ emb X := by
  intro a ha l G p e s m args below meth c H locs lsA cells slots Q C hH hL hc hF
  obtain ⟨h1, rfl⟩ := hd
  exact lv_ineg C.1 C.2.1 h1 (k a ha l G p e s m args below meth c H locs lsA cells slots Q C hH hL hc hF)

theorem ev_ladd {x y : Int64} (hd : Ins M pc nx 1 .ladd) (k : Ev M R nx ls (.long (x + y) :: st) σ emb X) : Ev M R pc ls (.long y :: .long x :: st) σ emb X := by
  intro a ha l G p e s m args below meth c H locs lsA cells slots Q C hH hL hc hF
  obtain ⟨h1, rfl⟩ := hd
  exact lv_ladd C.1 C.2.1 h1 (k a ha l G p e s m args below meth c H locs lsA cells slots Q C hH hL hc hF)

theorem ev_lsub {x y : Int64} (hd : Ins M pc nx 1 .lsub) (k : Ev M R nx ls (.long (x - y) :: st) σ emb X) : Ev M R pc ls (.long y :: .long x :: st) σ emb X := by
  intro a ha l G p e s m args below meth c H locs lsA cells slots Q C hH hL hc hF
  obtain ⟨h1, rfl⟩ := hd
  exact lv_lsub C.1 C.2.1 h1 (k a ha l G p e s m args below meth c H locs lsA cells slots Q C hH hL hc hF)

theorem ev_lmul {x y : Int64} (hd : Ins M pc nx 1 .lmul) (k : Ev M R nx ls (.long (x * y) :: st) σ emb X) : Ev M R pc ls (.long y :: .long x :: st) σ emb X := by
  intro a ha l G p e s m args below meth c H locs lsA cells slots Q C hH hL hc hF
  obtain ⟨h1, rfl⟩ := hd
  exact lv_lmul C.1 C.2.1 h1 (k a ha l G p e s m args below meth c H locs lsA cells slots Q C hH hL hc hF)

theorem ev_i2l {x : Int32} (hd : Ins M pc nx 1 .i2l) (k : Ev M R nx ls (.long x.toInt64 :: st) σ emb X) : Ev M R pc ls (.int x :: st) σ emb X := by
  intro a ha l G p e s m args below meth c H locs lsA cells slots Q C hH hL hc hF
  obtain ⟨h1, rfl⟩ := hd
  exact lv_i2l C.1 C.2.1 h1 rfl (k a ha l G p e s m args below meth c H locs lsA cells slots Q C hH hL hc hF)

theorem ev_i2b {x : Int32} (hd : Ins M pc nx 1 .i2b) (k : Ev M R nx ls (.int x.toInt8.toInt32 :: st) σ emb X) : Ev M R pc ls (.int x :: st) σ emb X := by
  intro a ha l G p e s m args below meth c H locs lsA cells slots Q C hH hL hc hF
  obtain ⟨h1, rfl⟩ := hd
  exact lv_i2b C.1 C.2.1 h1 rfl (k a ha l G p e s m args below meth c H locs lsA cells slots Q C hH hL hc hF)

theorem ev_i2s {x : Int32} (hd : Ins M pc nx 1 .i2s) (k : Ev M R nx ls (.int x.toInt16.toInt32 :: st) σ emb X) : Ev M R pc ls (.int x :: st) σ emb X := by
  intro a ha l G p e s m args below meth c H locs lsA cells slots Q C hH hL hc hF
  obtain ⟨h1, rfl⟩ := hd
  exact lv_i2s C.1 C.2.1 h1 rfl (k a ha l G p e s m args below meth c H locs lsA cells slots Q C hH hL hc hF)

theorem ev_i2c {x : Int32} (hd : Ins M pc nx 1 .i2c) (k : Ev M R nx ls (.int (x.toUInt32 % 65536).toInt32 :: st) σ emb X) : Ev M R pc ls (.int x :: st) σ emb X := by
  intro a ha l G p e s m args below meth c H locs lsA cells slots Q C hH hL hc hF
  obtain ⟨h1, rfl⟩ := hd
  exact lv_i2c C.1 C.2.1 h1 rfl (k a ha l G p e s m args below meth c H locs lsA cells slots Q C hH hL hc hF)

theorem ev_lcmp {x y : Int64} (hd : Ins M pc nx 1 .lcmp) (k : Ev M R nx ls (.int (lg_cmp x y) :: st) σ emb X) : Ev M R pc ls (.long y :: .long x :: st) σ emb X := by
  intro a ha l G p e s m args below meth c H locs lsA cells slots Q C hH hL hc hF
  obtain ⟨h1, rfl⟩ := hd
  exact W.lcmp C.1 C.2.1 h1 (k a ha l G p e s m args below meth c H locs lsA cells slots Q C hH hL hc hF)

theorem ev_idiv {x y : Int32} (hd : Ins M pc nx 1 .idiv) (k : Ev M R nx ls (.int (x / y) :: st) σ emb X) : Ev M R pc ls (.int y :: .int x :: st) σ emb (if y = 0 then none else X) := by
  intro a ha l G p e s m args below meth c H locs lsA cells slots Q C hH hL hc hF
  obtain ⟨h1, rfl⟩ := hd
  by_cases hy : y = 0
  · rw [if_pos hy] at ha; cases ha
  · rw [if_neg hy] at ha
    exact lv_idiv C.1 C.2.1 h1 hy (k a ha l G p e s m args below meth c H locs lsA cells slots Q C hH hL hc hF)

theorem ev_idivK {x y : Int32} (hd : Ins M pc nx 1 .idiv) (hy : ¬ y = 0) (k : Ev M R nx ls (.int (x / y) :: st) σ emb X) : Ev M R pc ls (.int y :: .int x :: st) σ emb X := by
  intro a ha l G p e s m args below meth c H locs lsA cells slots Q C hH hL hc hF
  obtain ⟨h1, rfl⟩ := hd
  exact lv_idiv C.1 C.2.1 h1 hy (k a ha l G p e s m args below meth c H locs lsA cells slots Q C hH hL hc hF)

theorem ev_irem {x y : Int32} (hd : Ins M pc nx 1 .irem) (k : Ev M R nx ls (.int (jrem x y) :: st) σ emb X) : Ev M R pc ls (.int y :: .int x :: st) σ emb (if y = 0 then none else X) := by
  intro a ha l G p e s m args below meth c H locs lsA cells slots Q C hH hL hc hF
  obtain ⟨h1, rfl⟩ := hd
  by_cases hy : y = 0
  · rw [if_pos hy] at ha; cases ha
  · rw [if_neg hy] at ha
    exact lv_irem C.1 C.2.1 h1 hy (k a ha l G p e s m args below meth c H locs lsA cells slots Q C hH hL hc hF)

theorem ev_iremK {x y : Int32} (hd : Ins M pc nx 1 .irem) (hy : ¬ y = 0) (k : Ev M R nx ls (.int (jrem x y) :: st) σ emb X) : Ev M R pc ls (.int y :: .int x :: st) σ emb X := by
  intro a ha l G p e s m args below meth c H locs lsA cells slots Q C hH hL hc hF
  obtain ⟨h1, rfl⟩ := hd
  exact lv_irem C.1 C.2.1 h1 hy (k a ha l G p e s m args below meth c H locs lsA cells slots Q C hH hL hc hF)

theorem ev_dupI {x : Int32} (hd : Ins M pc nx 1 .dup) (k : Ev M R nx ls (.int x :: .int x :: st) σ emb X) : Ev M R pc ls (.int x :: st) σ emb X := by
  intro a ha l G p e s m args below meth c H locs lsA cells slots Q C hH hL hc hF
  obtain ⟨h1, rfl⟩ := hd
  exact lv_dup C.1 C.2.1 h1 rfl (k a ha l G p e s m args below meth c H locs lsA cells slots Q C hH hL hc hF)

theorem ev_dupR {x : Nat} (hd : Ins M pc nx 1 .dup) (hx : x ≠ 140) (k : Ev M R nx ls (.ref x :: .ref x :: st) σ emb X) : Ev M R pc ls (.ref x :: st) σ emb X := by
  intro a ha l G p e s m args below meth c H locs lsA cells slots Q C hH hL hc hF
  obtain ⟨h1, rfl⟩ := hd
  exact lv_dup C.1 C.2.1 h1 (by rw [sg_v_ref G hx]; rfl) (k a ha l G p e s m args below meth c H locs lsA cells slots Q C hH hL hc hF)

theorem ev_popI {x : Int32} (hd : Ins M pc nx 1 .pop) (k : Ev M R nx ls st σ emb X) : Ev M R pc ls (.int x :: st) σ emb X := by
  intro a ha l G p e s m args below meth c H locs lsA cells slots Q C hH hL hc hF
  obtain ⟨h1, rfl⟩ := hd
  exact lv_pop C.1 C.2.1 h1 rfl (k a ha l G p e s m args below meth c H locs lsA cells slots Q C hH hL hc hF)

theorem ev_dup2 {x : Int32} {y : Nat} (hd : Ins M pc nx 1 .dup2) (hy : y ≠ 140) (k : Ev M R nx ls (.int x :: .ref y :: .int x :: .ref y :: st) σ emb X) : Ev M R pc ls (.int x :: .ref y :: st) σ emb X := by
  intro a ha l G p e s m args below meth c H locs lsA cells slots Q C hH hL hc hF
  obtain ⟨h1, rfl⟩ := hd
  exact lv_dup2_11 C.1 C.2.1 h1 rfl (by rw [sg_v_ref G hy]; rfl) (k a ha l G p e s m args below meth c H locs lsA cells slots Q C hH hL hc hF)

theorem ev_goto (hd : InB M pc nx tgt .goto) (k : Ev M R tgt ls st σ emb X) : Ev M R pc ls st σ emb X := by
  intro a ha l G p e s m args below meth c H locs lsA cells slots Q C hH hL hc hF
  obtain ⟨h1, -⟩ := hd
  exact lv_goto (tgt := tgt) C.1 C.2.1 h1 (by omega) (k a ha l G p e s m args below meth c H locs lsA cells slots Q C hH hL hc hF)

theorem ev_icmp_eq {x y : Int32} (hd : InB M pc nx tgt (.if_icmp .eq)) (kt : Ev M R tgt ls st σ emb X) (kf : Ev M R nx ls st σ emb Y) : Ev M R pc ls (.int y :: .int x :: st) σ emb (if x = y then X else Y) := by
  intro a ha l G p e s m args below meth c H locs lsA cells slots Q C hH hL hc hF
  obtain ⟨h1, rfl⟩ := hd
  refine lv_icmp_eq (tgt := tgt) C.1 C.2.1 h1 (by omega) (fun hP => ?_) (fun hP => ?_)
  · have hP : x = y := hP
    rw [if_pos hP] at ha
    exact kt a ha l G p e s m args below meth c H locs lsA cells slots Q C hH hL hc hF
  · have hP : ¬ x = y := hP
    rw [if_neg hP] at ha
    exact kf a ha l G p e s m args below meth c H locs lsA cells slots Q C hH hL hc hF

theorem ev_icmp_ne {x y : Int32} (hd : InB M pc nx tgt (.if_icmp .ne)) (kf : Ev M R nx ls st σ emb X) (kt : Ev M R tgt ls st σ emb Y) : Ev M R pc ls (.int y :: .int x :: st) σ emb (if x = y then X else Y) := by
  intro a ha l G p e s m args below meth c H locs lsA cells slots Q C hH hL hc hF
  obtain ⟨h1, rfl⟩ := hd
  refine lv_icmp_ne (tgt := tgt) C.1 C.2.1 h1 (by omega) (fun hP => ?_) (fun hP => ?_)
  · have hP : ¬ x = y := hP
    rw [if_neg hP] at ha
    exact kt a ha l G p e s m args below meth c H locs lsA cells slots Q C hH hL hc hF
  · have hP : x = y := hP
    rw [if_pos hP] at ha
    exact kf a ha l G p e s m args below meth c H locs lsA cells slots Q C hH hL hc hF

theorem ev_icmp_lt {x y : Int32} (hd : InB M pc nx tgt (.if_icmp .lt)) (kt : Ev M R tgt ls st σ emb X) (kf : Ev M R nx ls st σ emb Y) : Ev M R pc ls (.int y :: .int x :: st) σ emb (if x < y then X else Y) := by
  intro a ha l G p e s m args below meth c H locs lsA cells slots Q C hH hL hc hF
  obtain ⟨h1, rfl⟩ := hd
  refine lv_icmp_lt (tgt := tgt) C.1 C.2.1 h1 (by omega) (fun hP => ?_) (fun hP => ?_)
  · have hP : x < y := hP
    rw [if_pos hP] at ha
    exact kt a ha l G p e s m args below meth c H locs lsA cells slots Q C hH hL hc hF
  · have hP : ¬ x < y := hP
    rw [if_neg hP] at ha
    exact kf a ha l G p e s m args below meth c H locs lsA cells slots Q C hH hL hc hF

theorem ev_icmp_ge {x y : Int32} (hd : InB M pc nx tgt (.if_icmp .ge)) (kf : Ev M R nx ls st σ emb X) (kt : Ev M R tgt ls st σ emb Y) : Ev M R pc ls (.int y :: .int x :: st) σ emb (if x < y then X else Y) := by
  intro a ha l G p e s m args below meth c H locs lsA cells slots Q C hH hL hc hF
  obtain ⟨h1, rfl⟩ := hd
  refine lv_icmp_ge (tgt := tgt) C.1 C.2.1 h1 (by omega) (fun hP => ?_) (fun hP => ?_)
  · have hP : ¬ x < y := Int32.not_lt.mpr hP
    rw [if_neg hP] at ha
    exact kt a ha l G p e s m args below meth c H locs lsA cells slots Q C hH hL hc hF
  · have hP : x < y := Int32.not_le.mp hP
    rw [if_pos hP] at ha
    exact kf a ha l G p e s m args below meth c H locs lsA cells slots Q C hH hL hc hF

theorem ev_icmp_gt {x y : Int32} (hd : InB M pc nx tgt (.if_icmp .gt)) (kt : Ev M R tgt ls st σ emb X) (kf : Ev M R nx ls st σ emb Y) : Ev M R pc ls (.int y :: .int x :: st) σ emb (if y < x then X else Y) := by
  intro a ha l G p e s m args below meth c H locs lsA cells slots Q C hH hL hc hF
  obtain ⟨h1, rfl⟩ := hd
  refine lv_icmp_gt (tgt := tgt) C.1 C.2.1 h1 (by omega) (fun hP => ?_) (fun hP => ?_)
  · have hP : y < x := hP
    rw [if_pos hP] at ha
    exact kt a ha l G p e s m args below meth c H locs lsA cells slots Q C hH hL hc hF
  · have hP : ¬ y < x := hP
    rw [if_neg hP] at ha
    exact kf a ha l G p e s m args below meth c H locs lsA cells slots Q C hH hL hc hF

theorem ev_icmp_le {x y : Int32} (hd : InB M pc nx tgt (.if_icmp .le)) (kf : Ev M R nx ls st σ emb X) (kt : Ev M R tgt ls st σ emb Y) : Ev M R pc ls (.int y :: .int x :: st) σ emb (if y < x then X else Y) := by
  intro a ha l G p e s m args below meth c H locs lsA cells slots Q C hH hL hc hF
  obtain ⟨h1, rfl⟩ := hd
  refine lv_icmp_le (tgt := tgt) C.1 C.2.1 h1 (by omega) (fun hP => ?_) (fun hP => ?_)
  · have hP : ¬ y < x := Int32.not_lt.mpr hP
    rw [if_neg hP] at ha
    exact kt a ha l G p e s m args below meth c H locs lsA cells slots Q C hH hL hc hF
  · have hP : y < x := Int32.not_le.mp hP
    rw [if_pos hP] at ha
    exact kf a ha l G p e s m args below meth c H locs lsA cells slots Q C hH hL hc hF

theorem ev_if_eq {x : Int32} (hd : InB M pc nx tgt (.ifCond .eq)) (kt : Ev M R tgt ls st σ emb X) (kf : Ev M R nx ls st σ emb Y) : Ev M R pc ls (.int x :: st) σ emb (if x = 0 then X else Y) := by
  intro a ha l G p e s m args below meth c H locs lsA cells slots Q C hH hL hc hF
  obtain ⟨h1, rfl⟩ := hd
  refine lv_if_eq (tgt := tgt) C.1 C.2.1 h1 (by omega) (fun hP => ?_) (fun hP => ?_)
  · have hP : x = 0 := hP
    rw [if_pos hP] at ha
    exact kt a ha l G p e s m args below meth c H locs lsA cells slots Q C hH hL hc hF
  · have hP : ¬ x = 0 := hP
    rw [if_neg hP] at ha
    exact kf a ha l G p e s m args below meth c H locs lsA cells slots Q C hH hL hc hF

theorem ev_if_ne {x : Int32} (hd : InB M pc nx tgt (.ifCond .ne)) (kf : Ev M R nx ls st σ emb X) (kt : Ev M R tgt ls st σ emb Y) : Ev M R pc ls (.int x :: st) σ emb (if x = 0 then X else Y) := by
  intro a ha l G p e s m args below meth c H locs lsA cells slots Q C hH hL hc hF
  obtain ⟨h1, rfl⟩ := hd
  refine lv_if_ne (tgt := tgt) C.1 C.2.1 h1 (by omega) (fun hP => ?_) (fun hP => ?_)
  · have hP : ¬ x = 0 := hP
    rw [if_neg hP] at ha
    exact kt a ha l G p e s m args below meth c H locs lsA cells slots Q C hH hL hc hF
  · have hP : x = 0 := hP
    rw [if_pos hP] at ha
    exact kf a ha l G p e s m args below meth c H locs lsA cells slots Q C hH hL hc hF

theorem ev_if_lt {x : Int32} (hd : InB M pc nx tgt (.ifCond .lt)) (kt : Ev M R tgt ls st σ emb X) (kf : Ev M R nx ls st σ emb Y) : Ev M R pc ls (.int x :: st) σ emb (if x < 0 then X else Y) := by
  intro a ha l G p e s m args below meth c H locs lsA cells slots Q C hH hL hc hF
  obtain ⟨h1, rfl⟩ := hd
  refine lv_if_lt (tgt := tgt) C.1 C.2.1 h1 (by omega) (fun hP => ?_) (fun hP => ?_)
  · have hP : x < 0 := hP
    rw [if_pos hP] at ha
    exact kt a ha l G p e s m args below meth c H locs lsA cells slots Q C hH hL hc hF
  · have hP : ¬ x < 0 := hP
    rw [if_neg hP] at ha
    exact kf a ha l G p e s m args below meth c H locs lsA cells slots Q C hH hL hc hF

theorem ev_if_ge {x : Int32} (hd : InB M pc nx tgt (.ifCond .ge)) (kf : Ev M R nx ls st σ emb X) (kt : Ev M R tgt ls st σ emb Y) : Ev M R pc ls (.int x :: st) σ emb (if x < 0 then X else Y) := by
  intro a ha l G p e s m args below meth c H locs lsA cells slots Q C hH hL hc hF
  obtain ⟨h1, rfl⟩ := hd
  refine lv_if_ge (tgt := tgt) C.1 C.2.1 h1 (by omega) (fun hP => ?_) (fun hP => ?_)
  · have hP : ¬ x < 0 := Int32.not_lt.mpr hP
    rw [if_neg hP] at ha
    exact kt a ha l G p e s m args below meth c H locs lsA cells slots Q C hH hL hc hF
  · have hP : x < 0 := Int32.not_le.mp hP
    rw [if_pos hP] at ha
    exact kf a ha l G p e s m args below meth c H locs lsA cells slots Q C hH hL hc hF

theorem ev_if_gt {x : Int32} (hd : InB M pc nx tgt (.ifCond .gt)) (kt : Ev M R tgt ls st σ emb X) (kf : Ev M R nx ls st σ emb Y) : Ev M R pc ls (.int x :: st) σ emb (if 0 < x then X else Y) := by
  intro a ha l G p e s m args below meth c H locs lsA cells slots Q C hH hL hc hF
  obtain ⟨h1, rfl⟩ := hd
  refine lv_if_gt (tgt := tgt) C.1 C.2.1 h1 (by omega) (fun hP => ?_) (fun hP => ?_)
  · have hP : 0 < x := hP
    rw [if_pos hP] at ha
    exact kt a ha l G p e s m args below meth c H locs lsA cells slots Q C hH hL hc hF
  · have hP : ¬ 0 < x := hP
    rw [if_neg hP] at ha
    exact kf a ha l G p e s m args below meth c H locs lsA cells slots Q C hH hL hc hF

theorem ev_if_le {x : Int32} (hd : InB M pc nx tgt (.ifCond .le)) (kf : Ev M R nx ls st σ emb X) (kt : Ev M R tgt ls st σ emb Y) : Ev M R pc ls (.int x :: st) σ emb (if 0 < x then X else Y) := by
  intro a ha l G p e s m args below meth c H locs lsA cells slots Q C hH hL hc hF
  obtain ⟨h1, rfl⟩ := hd
  refine lv_if_le (tgt := tgt) C.1 C.2.1 h1 (by omega) (fun hP => ?_) (fun hP => ?_)
  · have hP : ¬ 0 < x := Int32.not_lt.mpr hP
    rw [if_neg hP] at ha
    exact kt a ha l G p e s m args below meth c H locs lsA cells slots Q C hH hL hc hF
  · have hP : 0 < x := Int32.not_le.mp hP
    rw [if_pos hP] at ha
    exact kf a ha l G p e s m args below meth c H locs lsA cells slots Q C hH hL hc hF

theorem ev_pos {P : Prop} [Decidable P] {ls : List (Option Value)} {st : List Value} (hP : P) (k : Ev M R pc ls st σ emb (if P then X else Y)) : Ev M R pc ls st σ emb X := by rwa [if_pos hP] at k

theorem ev_neg {P : Prop} [Decidable P] {ls : List (Option Value)} {st : List Value} (hP : ¬ P) (k : Ev M R pc ls st σ emb (if P then X else Y)) : Ev M R pc ls st σ emb Y := by rwa [if_neg hP] at k

/-- a field's link: own class, pool entry, class in vwCl, field -/
def sg_FL (own : String) (idx ci j : Nat) : Prop := ∃ (C : String) (T : u_T) (N : Nat), vwCl[ci]? = some (C, T, N) ∧ (∀ w ∈ u_ws C T N, w ∈ tw) ∧ j < N ∧ Cond.fieldLink own idx (T j).1 (T j).2.1 (T j).2.2.1 ∈ tw
/-- and that it may be written, with its type -/
def sg_FP (ci j : Nat) (ty : FieldType) : Prop := ∃ (C : String) (T : u_T) (N : Nat) (ty0 : Nat → FieldType), vwCl[ci]? = some (C, T, N) ∧ (∀ k, k < N → parseFieldDescriptor (T k).2.2.1 = some (ty0 k)) ∧ (∀ a, a < N → ∀ b, b < N → a ≠ b → (T a).2.1 ≠ (T b).2.1) ∧ (T j).2.2.2 = false ∧ ty0 j = ty
theorem ev_getI {k0 idx : Nat} (ci j : Nat) {fl : List (Option Nat)} (hd : Ins M pc nx 3 (.getfield idx)) (hf : sg_FL M.1 idx ci j) (hO : sg_O k0 = some (ci, fl)) (hj : fl[j]? = some none) (k : Ev M R nx ls (.int (σ k0 j) :: st) σ emb X) : Ev M R pc ls (.ref k0 :: st) σ emb X := by
  intro a ha l G p e s m args below meth c H locs lsA cells slots Q C hH hL hc hF
  obtain ⟨h1, rfl⟩ := hd
  obtain ⟨C0, T, N, f1, f2, f3, f4⟩ := hf
  have hk := sg_O_lt hO
  rw [List.map_cons, sg_v_ref G (by omega)]
  refine va_get C.1 C.2.1 C.2.2.2.2.1 f2 C.2.2.2.1 C.2.2.2.2.2.1 hH.1 k0 (by rw [sg_W_at hk, sg_E_obj hO]) f1 j f3 (C.2.2.2.2.1 _ f4) (fun _ h => h) (v := .int (σ k0 j)) ?_ h1 (k a ha l G p e s m args below meth c H locs lsA cells slots Q C hH hL hc hF)
  rw [sg_fl_int _ _ fl 0 j hj, Nat.zero_add]
theorem ev_getR {k0 k1 idx : Nat} (ci j : Nat) {fl : List (Option Nat)} (hd : Ins M pc nx 3 (.getfield idx)) (hf : sg_FL M.1 idx ci j) (hO : sg_O k0 = some (ci, fl)) (hj : fl[j]? = some (some k1)) (h140 : k1 ≠ 140) (k : Ev M R nx ls (.ref k1 :: st) σ emb X) : Ev M R pc ls (.ref k0 :: st) σ emb X := by
  intro a ha l G p e s m args below meth c H locs lsA cells slots Q C hH hL hc hF
  obtain ⟨h1, rfl⟩ := hd
  obtain ⟨C0, T, N, f1, f2, f3, f4⟩ := hf
  have hk := sg_O_lt hO
  have kk := k a ha l G p e s m args below meth c H locs lsA cells slots Q C hH hL hc hF
  rw [List.map_cons, sg_v_ref G h140] at kk
  rw [List.map_cons, sg_v_ref G (by omega)]
  exact va_get C.1 C.2.1 C.2.2.2.2.1 f2 C.2.2.2.1 C.2.2.2.2.2.1 hH.1 k0 (by rw [sg_W_at hk, sg_E_obj hO]) f1 j f3 (C.2.2.2.2.1 _ f4) (fun _ h => h) (sg_fl_ref _ _ fl 0 j k1 hj) h1 kk
theorem ev_putI {k0 idx : Nat} (ci j : Nat) {fl : List (Option Nat)} {x : Int32} {ty : FieldType} (hd : Ins M pc nx 3 (.putfield idx)) (hf : sg_FL M.1 idx ci j) (hp : sg_FP ci j ty) (hn : narrow ty (.int x) = .int x) (hfit : fits ty (.int x) = true) (hO : sg_O k0 = some (ci, fl)) (hj : fl[j]? = some none) (k : Ev M R nx ls st (sg_st σ k0 j x) emb X) : Ev M R pc ls (.int x :: .ref k0 :: st) σ emb X := by
  intro a ha l G p e s m args below meth c H locs lsA cells slots Q C hH hL hc hF
  obtain ⟨h1, rfl⟩ := hd
  obtain ⟨C0, T, N, f1, f2, f3, f4⟩ := hf
  obtain ⟨C1, T1, N1, ty0, g1, g2, g3, g4, g5⟩ := hp
  have e := Option.some.inj (f1.symm.trans g1)
  cases e
  have hk := sg_O_lt hO
  rw [List.map_cons, List.map_cons, sg_v_ref G (by omega)]
  have he : (sg_W G σ)[k0]? = some (sg_ad G k0, .inr (ci, sg_fl (sg_ad G) fl (σ k0) 0)) := by rw [sg_W_at hk, sg_E_obj hO]
  have hset : (sg_W G σ).set k0 (sg_ad G k0, .inr (ci, (sg_fl (sg_ad G) fl (σ k0) 0).set j (.int x))) = sg_W G (sg_st σ k0 j x) := by
    refine sg_W_set hk ?_
    rw [sg_E_obj hO, sg_fl_set _ _ fl _ 0 j hj, Nat.zero_add]
  refine va_put C.1 C.2.1 C.2.2.2.2.1 f2 ty0 g2 g3 C.2.2.2.1 C.2.2.2.2.2.1 hH.1 hH.2.1 hH.2.2 k0 he f1 j f3 (C.2.2.2.2.1 _ f4) (fun _ h => h) g4 (ty := ty) (by rw [g2 j f3, g5]) hn hfit (by rw [sg_fl_len]; exact (List.getElem?_eq_some_iff.mp hj).1) h1 (fun H1 locs1 hP1 hD1 hS1 => ?_)
  rw [sg_v_int, hset] at hP1 hD1
  exact k a ha l G p e s m args below meth c H1 locs1 lsA cells slots Q C ⟨hP1, hD1, hS1⟩ hL hc hF

/-- an index is in its row -/
def sg_in (i : Int32) (n : Nat) : Bool := decide (¬ i < 0) && decide (i.toNatClampNeg < n)
theorem sg_in_vp {i : Int32} {n : Nat} (h : sg_in i n = true) : vp_in i n := by
  simp only [sg_in, Bool.and_eq_true, decide_eq_true_eq] at h
  rintro (q | q)
  · exact h.1 q
  · exact absurd h.2 (Nat.not_lt.mpr q)
theorem ev_iald {k0 n : Nat} {i : Int32} (hd : Ins M pc nx 1 .iaload) (hA : sg_A k0 = some n) (k : Ev M R nx ls (.int (σ k0 i.toNatClampNeg) :: st) σ emb X) : Ev M R pc ls (.int i :: .ref k0 :: st) σ emb (if sg_in i n = true then X else none) := by
  intro a ha l G p e s m args below meth c H locs lsA cells slots Q C hH hL hc hF
  obtain ⟨h1, rfl⟩ := hd
  by_cases hi : sg_in i n = true
  · rw [if_pos hi] at ha
    have hk := sg_A_lt hA
    rw [List.map_cons, List.map_cons, sg_v_ref G (by omega)]
    exact va_iald C.1 C.2.1 C.2.2.2.2.2.1 hH.1 k0 0 (by rw [sg_W_at hk, sg_E_arr hA]) rfl (sg_in_vp hi) h1 (k a ha l G p e s m args below meth c H locs lsA cells slots Q C hH hL hc hF)
  · rw [if_neg hi] at ha; cases ha
theorem ev_iast {k0 n : Nat} {i x : Int32} (hd : Ins M pc nx 1 .iastore) (hA : sg_A k0 = some n) (k : Ev M R nx ls st (sg_st σ k0 i.toNatClampNeg x) emb X) : Ev M R pc ls (.int x :: .int i :: .ref k0 :: st) σ emb (if sg_in i n = true then X else none) := by
  intro a ha l G p e s m args below meth c H locs lsA cells slots Q C hH hL hc hF
  obtain ⟨h1, rfl⟩ := hd
  by_cases hi : sg_in i n = true
  · rw [if_pos hi] at ha
    have hk := sg_A_lt hA
    rw [List.map_cons, List.map_cons, List.map_cons, sg_v_ref G (by omega)]
    refine va_iast C.1 C.2.1 C.2.2.2.2.2.1 hH.1 hH.2.1 hH.2.2 k0 0 (by rw [sg_W_at hk, sg_E_arr hA]) rfl (sg_in_vp hi) h1 (fun H1 locs1 hP1 hD1 hS1 => ?_)
    rw [sg_W_set hk (sg_E_arr hA).symm] at hP1 hD1
    exact k a ha l G p e s m args below meth c H1 locs1 lsA cells slots Q C ⟨hP1, hD1, hS1⟩ hL hc hF
  · rw [if_neg hi] at ha; cases ha
theorem ev_ialdK {k0 n : Nat} {i : Int32} (j : Nat) (hd : Ins M pc nx 1 .iaload) (hA : sg_A k0 = some n) (hi : sg_in i n = true) (hj : i.toNatClampNeg = j) (k : Ev M R nx ls (.int (σ k0 j) :: st) σ emb X) : Ev M R pc ls (.int i :: .ref k0 :: st) σ emb X := by
  subst hj
  have h := ev_iald hd hA k
  rwa [if_pos hi] at h
theorem ev_iastK {k0 n : Nat} {i x : Int32} (j : Nat) (hd : Ins M pc nx 1 .iastore) (hA : sg_A k0 = some n) (hi : sg_in i n = true) (hj : i.toNatClampNeg = j) (k : Ev M R nx ls st (sg_st σ k0 j x) emb X) : Ev M R pc ls (.int x :: .int i :: .ref k0 :: st) σ emb X := by
  subst hj
  have h := ev_iast hd hA k
  rwa [if_pos hi] at h
theorem ev_alen {k0 n : Nat} {v : Int32} (hd : Ins M pc nx 1 .arraylength) (hA : sg_A k0 = some n) (hv : Int32.ofNat n = v) (k : Ev M R nx ls (.int v :: st) σ emb X) : Ev M R pc ls (.ref k0 :: st) σ emb X := by
  intro a ha l G p e s m args below meth c H locs lsA cells slots Q C hH hL hc hF
  obtain ⟨h1, rfl⟩ := hd
  have hk := sg_A_lt hA
  rw [List.map_cons, sg_v_ref G (by omega)]
  exact va_alen C.1 C.2.1 C.2.2.2.2.2.1 hH.1 k0 0 (by rw [sg_W_at hk, sg_E_arr hA]) rfl hv h1 (k a ha l G p e s m args below meth c H locs lsA cells slots Q C hH hL hc hF)
/-- the row of sheets -/
theorem ev_aaldS {i : Int32} (hd : Ins M pc nx 1 .aaload) (k : sg_in i 4 = true → Ev M R nx ls (.ref (53 + 2 * i.toNatClampNeg) :: st) σ emb X) : Ev M R pc ls (.int i :: .ref 52 :: st) σ emb (if sg_in i 4 = true then X else none) := by
  intro a ha l G p e s m args below meth c H locs lsA cells slots Q C hH hL hc hF
  obtain ⟨h1, rfl⟩ := hd
  by_cases hi : sg_in i 4 = true
  · rw [if_pos hi] at ha
    have hv := sg_in_vp hi
    have hlt : i.toNatClampNeg < 4 := Nat.not_le.mp fun q => hv (Or.inr q)
    have kk := k hi a ha l G p e s m args below meth c H locs lsA cells slots Q C hH hL hc hF
    rw [List.map_cons, sg_v_ref G (by omega)] at kk
    exact va_aldq C.1 C.2.1 C.2.2.2.2.2.1 hH.1 52 1 (sg_W_at (by omega)) rfl hv h1 kk
  · rw [if_neg hi] at ha; cases ha
/-- the row of the kinds' names -/
theorem ev_aaldT {i : Int32} (hd : Ins M pc nx 1 .aaload) (k : sg_in i 7 = true → Ev M R nx ls (.ref (100 + i.toNatClampNeg) :: st) σ emb X) : Ev M R pc ls (.int i :: .ref 68 :: st) σ emb (if sg_in i 7 = true then X else none) := by
  intro a ha l G p e s m args below meth c H locs lsA cells slots Q C hH hL hc hF
  obtain ⟨h1, rfl⟩ := hd
  by_cases hi : sg_in i 7 = true
  · rw [if_pos hi] at ha
    have hv := sg_in_vp hi
    have hlt : i.toNatClampNeg < 7 := Nat.not_le.mp fun q => hv (Or.inr q)
    have kk := k hi a ha l G p e s m args below meth c H locs lsA cells slots Q C hH hL hc hF
    rw [List.map_cons, sg_v_ref G (by omega)] at kk
    exact va_aldq C.1 C.2.1 C.2.2.2.2.2.1 hH.1 68 2 (sg_W_at (by omega)) rfl hv h1 kk
  · rw [if_neg hi] at ha; cases ha
theorem ev_alenT {v : Int32} (hd : Ins M pc nx 1 .arraylength) (hv : Int32.ofNat 7 = v) (k : Ev M R nx ls (.int v :: st) σ emb X) : Ev M R pc ls (.ref 68 :: st) σ emb X := by
  intro a ha l G p e s m args below meth c H locs lsA cells slots Q C hH hL hc hF
  obtain ⟨h1, rfl⟩ := hd
  exact va_alen C.1 C.2.1 C.2.2.2.2.2.1 hH.1 68 2 (sg_W_at (by omega)) rfl hv h1 (k a ha l G p e s m args below meth c H locs lsA cells slots Q C hH hL hc hF)
/-- the script -/
def sg_scr (x : sg_G) : Nat × (Nat → Int32) := x.2.2.2.2

theorem ev_strCoder {i idx : Nat} (hd : Ins M pc nx 3 (.getfield idx)) (hi : i < 12) (hw : Cond.fieldLink M.1 idx "java/lang/String" "coder" "B" ∈ tw) (k : Ev M R nx ls (.int 0 :: st) σ emb X) : Ev M R pc ls (.ref (100 + i) :: st) σ emb X := by
  intro a ha l G p e s m args below meth c H locs lsA cells slots Q C hH hL hc hF
  obtain ⟨h1, rfl⟩ := hd
  rw [List.map_cons, sg_v_ref G (by omega)]
  exact vk_getf C.1 C.2.1 (C.2.2.2.2.2.2.1.1.1 i hi).2.1 hH.2.2 C.2.2.2.1 (C.2.2.2.2.1 _ hw) (fun _ h => h) h1 (k a ha l G p e s m args below meth c H locs lsA cells slots Q C hH hL hc hF)
theorem ev_strValue {i idx : Nat} (hd : Ins M pc nx 3 (.getfield idx)) (hi : i < 12) (hw : Cond.fieldLink M.1 idx "java/lang/String" "value" "[B" ∈ tw) (k : Ev M R nx ls (.ref (120 + i) :: st) σ emb X) : Ev M R pc ls (.ref (100 + i) :: st) σ emb X := by
  intro a ha l G p e s m args below meth c H locs lsA cells slots Q C hH hL hc hF
  obtain ⟨h1, rfl⟩ := hd
  have kk := k a ha l G p e s m args below meth c H locs lsA cells slots Q C hH hL hc hF
  rw [List.map_cons, sg_v_ref G (by omega)] at kk
  rw [List.map_cons, sg_v_ref G (by omega)]
  exact vk_getf C.1 C.2.1 (C.2.2.2.2.2.2.1.1.1 i hi).2.2.1 hH.2.2 C.2.2.2.1 (C.2.2.2.2.1 _ hw) (fun _ h => h) h1 kk
theorem ev_alenB {i : Nat} (hd : Ins M pc nx 1 .arraylength) (hi : i < 12) (k : Ev M R nx ls (.int (Int32.ofNat (sg_len.getD i 0)) :: st) σ emb X) : Ev M R pc ls (.ref (120 + i) :: st) σ emb X := by
  intro a ha l G p e s m args below meth c H locs lsA cells slots Q C hH hL hc hF
  obtain ⟨h1, rfl⟩ := hd
  rw [List.map_cons, sg_v_ref G (by omega)]
  exact va_tlen C.1 C.2.1 (C.2.2.2.2.2.2.1.1.1 i hi).2.2.2 hH.2.2 rfl h1 (k a ha l G p e s m args below meth c H locs lsA cells slots Q C hH hL hc hF)
theorem ev_bald {i : Nat} {j : Int32} (hd : Ins M pc nx 1 .baload) (hi : i < 12) (k : Ev M R nx ls (.int ((sg_byt.getD i []).getD j.toNatClampNeg 0) :: st) σ emb X) : Ev M R pc ls (.int j :: .ref (120 + i) :: st) σ emb (if sg_in j (sg_len.getD i 0) = true then X else none) := by
  intro a ha l G p e s m args below meth c H locs lsA cells slots Q C hH hL hc hF
  obtain ⟨h1, rfl⟩ := hd
  by_cases hj : sg_in j (sg_len.getD i 0) = true
  · rw [if_pos hj] at ha
    rw [List.map_cons, List.map_cons, sg_v_ref G (by omega)]
    exact va_tb C.1 C.2.1 (C.2.2.2.2.2.2.1.1.1 i hi).2.2.2 hH.2.2 (sg_in_vp hj) rfl h1 (k a ha l G p e s m args below meth c H locs lsA cells slots Q C hH hL hc hF)
  · rw [if_neg hj] at ha; cases ha
theorem ev_compact {idx : Nat} (hd : Ins M pc nx 3 (.getstatic idx)) (hw : Cond.fieldLink M.1 idx "java/lang/String" "COMPACT_STRINGS" "Z" ∈ tw) (k : Ev M R nx ls (.int 1 :: st) σ emb X) : Ev M R pc ls st σ emb X := by
  intro a ha l G p e s m args below meth c H locs lsA cells slots Q C hH hL hc hF
  obtain ⟨h1, rfl⟩ := hd
  exact va_gets C.1 C.2.1 C.2.2.2.2.2.2.1.2.1 hH.2.2 C.2.2.2.1 (C.2.2.2.2.1 _ hw) (fun _ h => h) h1 (k a ha l G p e s m args below meth c H locs lsA cells slots Q C hH hL hc hF)
theorem ev_fmt {idx : Nat} (hd : Ins M pc nx 3 (.getstatic idx)) (hw : Cond.fieldLink M.1 idx "jdk/internal/util/Preconditions" "SIOOBE_FORMATTER" "Ljava/util/function/BiFunction;" ∈ tw) (k : Ev M R nx ls (.ref 140 :: st) σ emb X) : Ev M R pc ls st σ emb X := by
  intro a ha l G p e s m args below meth c H locs lsA cells slots Q C hH hL hc hF
  obtain ⟨h1, rfl⟩ := hd
  exact va_gets C.1 C.2.1 C.2.2.2.2.2.2.1.2.2.1 hH.2.2 C.2.2.2.1 (C.2.2.2.2.1 _ hw) (fun _ h => h) h1 (k a ha l G p e s m args below meth c H locs lsA cells slots Q C hH hL hc hF)

theorem ev_iret {v : Int32} {a0 : α} (hd : Ins M pc nx 1 .ireturn) (he : emb a0 = .inl (some (.int v), σ)) (hn : ∀ ty, M.2.2.2 = some ty → narrow ty (.int v) = .int v) : Ev M R pc ls [.int v] σ emb (some a0) := by
  intro a ha l G p e s m args below meth c H locs lsA cells slots Q C hH hL hc hF
  obtain ⟨h1, rfl⟩ := hd
  cases ha
  rw [he] at hF
  exact hF H locs lsA pc hH (by intro w ty e1 e2; cases e1; exact hn ty e2) h1
theorem ev_lret {v : Int64} {a0 : α} (hd : Ins M pc nx 1 .lreturn) (he : emb a0 = .inl (some (.long v), σ)) : Ev M R pc ls [.long v] σ emb (some a0) := by
  intro a ha l G p e s m args below meth c H locs lsA cells slots Q C hH hL hc hF
  obtain ⟨h1, rfl⟩ := hd
  cases ha
  rw [he] at hF
  exact hF H locs lsA pc hH (by intro w ty e1 e2; cases e1) h1
theorem ev_vret {a0 : α} (hd : Ins M pc nx 1 .return_) (he : emb a0 = .inl (none, σ)) : Ev M R pc ls [] σ emb (some a0) := by
  intro a ha l G p e s m args below meth c H locs lsA cells slots Q C hH hL hc hF
  obtain ⟨h1, rfl⟩ := hd
  cases ha
  rw [he] at hF
  exact hF H locs lsA pc hH (by intro w ty e1 e2; cases e1) h1
/-- an answer that must be of its narrow type -/
theorem ev_nar {v : Int32} {ty : FieldType} {ls : List (Option Value)} {st : List Value} (k : vp_nar ty v = v → Ev M R pc ls st σ emb X) : Ev M R pc ls st σ emb (if vp_nar ty v = v then X else none) := by
  by_cases h : vp_nar ty v = v
  · rw [if_pos h]; exact k h
  · rw [if_neg h]; exact ev_none
theorem sg_nar {ty ty2 : FieldType} {v : Int32} (h : vp_nar ty v = v) (e : some ty = some ty2) : narrow ty2 (.int v) = .int v := by
  cases e
  revert h
  cases ty <;> simp [vp_nar, narrow]
/-- names for a state, for a number -/
def sg_let {α : Type} (e : sg_S) (f : sg_S → Option α) : Option α := f e
def sg_leti {α : Type} (e : Int32) (f : Int32 → Option α) : Option α := f e
def sg_letl {α : Type} (e : Int64) (f : Int64 → Option α) : Option α := f e
theorem ev_let {e : sg_S} {f : sg_S → Option α} (k : ∀ s', Ev M R pc ls st s' emb (f s')) : Ev M R pc ls st e emb (sg_let e f) := k e
theorem ev_leti {e : Int32} {f : Int32 → Option α} (k : ∀ x, Ev M R pc ls (.int x :: st) σ emb (f x)) : Ev M R pc ls (.int e :: st) σ emb (sg_leti e f) := k e
theorem ev_letl {e : Int64} {f : Int64 → Option α} (k : ∀ x, Ev M R pc ls (.long x :: st) σ emb (f x)) : Ev M R pc ls (.long e :: st) σ emb (sg_letl e f) := k e
theorem nar0 (ty : FieldType) : narrow ty (.int 0) = .int 0 := by cases ty <;> rfl
theorem nar1 (ty : FieldType) : narrow ty (.int 1) = .int 1 := by cases ty <;> rfl
theorem narI {r : Option FieldType} (h : r = some .int) (v : Int32) (ty : FieldType) (e : r = some ty) : narrow ty (.int v) = .int v := by
  rw [h] at e; cases e; rfl
theorem narG {r : Option FieldType} {t0 : FieldType} (h : r = some t0) {v : Int32} (hv : vp_nar t0 v = v) (ty : FieldType) (e : r = some ty) : narrow ty (.int v) = .int v := by
  rw [h] at e; exact sg_nar hv e
/-- less known of the locals -/
def sg_le : List (Option Value) → List (Option Value) → Prop
  | [], _ => True
  | none :: l, [] => sg_le l []
  | none :: l, _ :: r => sg_le l r
  | some v :: l, some w :: r => v = w ∧ sg_le l r
  | some _ :: _, _ => False
theorem sg_le_at : ∀ (l r : List (Option Value)), sg_le l r → ∀ (i : Nat) (v : Value), l[i]? = some (some v) → r[i]? = some (some v)
  | [], _, _, i, v, h => by simp at h
  | none :: l, [], hl, 0, v, h => by simp at h
  | none :: l, [], hl, i + 1, v, h => by
    have := sg_le_at l [] hl i v (by simpa using h)
    simp at this
  | none :: l, _ :: r, hl, 0, v, h => by simp at h
  | none :: l, _ :: r, hl, i + 1, v, h => by simpa using sg_le_at l r hl i v (by simpa using h)
  | some w :: l, some w' :: r, hl, 0, v, h => by simp at h ⊢; rw [← hl.1]; exact h
  | some w :: l, some w' :: r, hl, i + 1, v, h => by simpa using sg_le_at l r hl.2 i v (by simpa using h)
theorem sg_L.less {G : sg_G} {n : Nat} {lsA : Array Slot} {l r : List (Option Value)} (h : sg_L G n lsA r) (hl : sg_le l r) : sg_L G n lsA l := ⟨h.1, h.2.1, fun i v hv => h.2.2 i v (sg_le_at l r hl i v hv)⟩
theorem ev_less {ls2 : List (Option Value)} (k : Ev M R pc ls2 st σ emb X) (hl : sg_le ls2 ls) : Ev M R pc ls st σ emb X := by
  intro a ha l G p e s m args below meth c H locs lsA cells slots Q C hH hL hc hF
  exact k a ha l G p e s m args below meth c H locs lsA cells slots Q C hH (hL.less hl) hc hF
/-- the stretch is at its end -/
theorem ev_exit {a0 : α} {ls2 : List (Option Value)} (he : emb a0 = .inr (pc, ls2, σ)) (hl : sg_le ls2 ls) : Ev M R pc ls [] σ emb (some a0) := by
  intro a ha l G p e s m args below meth c H locs lsA cells slots Q C hH hL hc hF
  cases ha
  rw [he] at hF
  exact hF H locs lsA hH (hL.less hl)
/-- one stretch behind another -/
theorem ev_seq {β : Type} {emb1 : β → sg_X} {F : Option β} {K : β → Option α} (h1 : Ev M R pc ls st σ emb1 F) (h2 : ∀ b : β, match emb1 b with
    | .inl r => ∀ a, K b = some a → emb a = .inl r
    | .inr q => Ev M R q.1 q.2.1 [] q.2.2 emb (K b)) : Ev M R pc ls st σ emb (F.bind K) := by
  intro a ha l G p e s m args below meth c H locs lsA cells slots Q C hH hL hc hF
  cases hF1 : F with
  | none => rw [hF1] at ha; cases ha
  | some b =>
    rw [hF1] at ha
    have ha : K b = some a := ha
    refine h1 b hF1 l G p e s m args below meth c H locs lsA cells slots Q C hH hL hc ?_
    have h3 := h2 b
    cases he : emb1 b with
    | inl r =>
      rw [he] at h3
      rw [h3 a ha] at hF
      exact hF
    | inr q =>
      rw [he] at h3
      intro H' locs' lsA' hH' hL'
      exact h3 a ha l G p e s m args below meth c H' locs' lsA' cells slots Q C hH' hL' hc hF
theorem ev_seq1 {β : Type} {emb1 : β → sg_X} {F : Option β} {K : β → Option α} (E : Nat) (L : β → List (Option Value)) (S : β → sg_S) (h1 : Ev M R pc ls st σ emb1 F) (hI : ∀ b, emb1 b = .inr (E, L b, S b)) (h2 : ∀ b, Ev M R E (L b) [] (S b) emb (K b)) : Ev M R pc ls st σ emb (F.bind K) :=
  ev_seq h1 (fun b => by rw [hI b]; exact h2 b)
theorem ev_seqS {β γ : Type} {emb1 : β ⊕ γ → sg_X} {F : Option (β ⊕ γ)} {K1 : β → Option α} {K2 : γ → Option α} (E : Nat) (L : β → List (Option Value)) (S : β → sg_S) (h1 : Ev M R pc ls st σ emb1 F) (hI : ∀ b, emb1 (.inl b) = .inr (E, L b, S b)) (h3 : ∀ r, ∃ w, emb1 (.inr r) = .inl w ∧ ∀ a, K2 r = some a → emb a = .inl w) (h2 : ∀ b, Ev M R E (L b) [] (S b) emb (K1 b)) : Ev M R pc ls st σ emb (F.bind (Sum.elim K1 K2)) :=
  ev_seq h1 (fun b => by
    cases b with
    | inl b => rw [hI b]; exact h2 b
    | inr r =>
      obtain ⟨w, h4, h5⟩ := h3 r
      rw [h4]
      exact fun a ha => h5 a ha)
/-- a loop: its body once more, or its end; none where it goes on beyond n rounds -/
def sg_lp {A B : Type} (body : A → Option (A ⊕ B)) : Nat → A → Option B
  | 0, _ => none
  | n + 1, a => match body a with
    | none => none
    | some (.inl a') => sg_lp body n a'
    | some (.inr b) => some b
theorem ev_loop {A B : Type} {body : A → Option (A ⊕ B)} {embB : A ⊕ B → sg_X} {ex : B → sg_X} (head : Nat) (L : A → List (Option Value)) (S : A → sg_S) (hI : ∀ a, embB (.inl a) = .inr (head, L a, S a)) (hX : ∀ b, embB (.inr b) = ex b) (hb : ∀ a, Ev M R head (L a) [] (S a) embB (body a)) : ∀ (n : Nat) (a : A), Ev M R head (L a) [] (S a) ex (sg_lp body n a) := by
  intro n
  induction n with
  | zero => intro a; exact ev_none
  | succ n ih =>
    intro a0
    intro a ha l G p e s m args below meth c H locs lsA cells slots Q C hH hL hc hF
    unfold sg_lp at ha
    cases hB : body a0 with
    | none => rw [hB] at ha; cases ha
    | some z =>
      rw [hB] at ha
      refine hb a0 z hB l G p e s m args below meth c H locs lsA cells slots Q C hH hL hc ?_
      cases z with
      | inl a' =>
        rw [hI]
        intro H' locs' lsA' hH' hL'
        exact ih a' a ha l G p e s m args below meth c H' locs' lsA' cells slots Q C hH' hL' hc hF
      | inr b =>
        cases ha
        rw [hX]
        exact hF
end RW
end
section
section CL
variable {M N : sg_M} {R rm : Room} {pc nx tgt : Nat} {ls : List (Option Value)} {st stk As : List Value} {σ : sg_S} {α β : Type} {emb : α → sg_X} {X : Option α} {y : MethodName}
/-- a method's contract: at these arguments, over σ, it answers what X tells -/
def sg_Call (y : MethodName) (N : sg_M) (rm : Room) (As : List Value) (σ : sg_S) {β : Type} (emb2 : β → Option Value × sg_S) (F : Option β) : Prop :=
  ∀ a : β, F = some a → ∀ (l : Launch) (G : sg_G), Met l y (Cond.code y N.2.1 N.2.2.1 N.2.2.2 :: tw) rm (va_Pc (As.map (sg_v G)) (sg_Wd G σ)) (sg_Q G (emb2 a)) 0 0 (sg_Ad G)
/-- an answer's kind fits the method's type -/
def sg_rk (r : Option FieldType) (v : Option Value) : Prop := match v with
  | none => r = none
  | some (.int _) => r.isSome = true
  | some (.long _) => r = some .long
  | _ => False
def sg_ir : Value → Bool
  | .int _ => true
  | .ref _ => true
  | _ => false
theorem sg_ir_ok {v : Value} (h : sg_ir v = true) : (∃ x, v = .int x) ∨ (∃ k, v = .ref k) := by
  cases v <;> simp [sg_ir] at h
  · exact Or.inl ⟨_, rfl⟩
  · exact Or.inr ⟨_, rfl⟩
theorem sg_sl_len : ∀ (vs : List Value), (∀ v ∈ vs, v.category = 1) → (lg_sl vs).length = vs.length
  | [], _ => rfl
  | v :: vs, h => by
    have h1 := h v List.mem_cons_self
    have h2 := sg_sl_len vs (fun w hw => h w (List.mem_cons_of_mem _ hw))
    simp only [lg_sl, List.flatMap_cons, List.length_append, List.length_cons] at h2 ⊢
    rw [if_neg (by rw [h1]; decide), h2]
    simp; omega
theorem sg_args_in : ∀ (vs : List Value) (j : Nat), (∀ v ∈ vs, v.category = 1) → ∀ (i : Nat) (v : Value), vs[i]? = some v → (j + i, v) ∈ lv_args j vs
  | [], _, _, i, v, h => by simp at h
  | w :: vs, j, hc, 0, v, h => by simp at h; subst h; exact List.mem_cons_self
  | w :: vs, j, hc, i + 1, v, h => by
    have h1 := hc w List.mem_cons_self
    have := sg_args_in vs (j + 1) (fun w hw => hc w (List.mem_cons_of_mem _ hw)) i v (by simpa using h)
    rw [show j + 1 + i = j + (i + 1) by omega] at this
    simp only [lv_args]
    rw [if_neg (by rw [h1]; decide)]
    exact List.mem_cons_of_mem _ this
theorem sg_call_of {emb2 : β → Option Value × sg_S} {F : Option β} (hy : plainName y.cls = true) (ho : N.1 = y.cls) (hlen : As.length ≤ N.2.2.1) (hA : As.all sg_ir = true) (hrk : ∀ b, sg_rk N.2.2.2 (emb2 b).1) (ev : Ev N rm 0 (As.map some) [] σ (fun b => Sum.inl (emb2 b)) F) : sg_Call y N rm As σ emb2 F := by
  intro a ha l G
  refine Met.ofW (cc := N.2.1) (maxL := N.2.2.1) (ret := N.2.2.2) hy rfl ?_
  intro p e s m args below meth c s₁ B hml hv
  obtain ⟨rfl, hP, hK, hD, hT, hR⟩ := hv
  have hts0 := atoms_spec (ws := Cond.code y N.2.1 N.2.2.1 N.2.2.2 :: tw) B.pre
  have hown : s.vm.findClass y.cls = some m.cls := findClass_of_methodNamed B.named
  have hcat : ∀ v ∈ As.map (sg_v G), v.category = 1 := fun v hv => by
    obtain ⟨w, h1, rfl⟩ := List.mem_map.mp hv
    exact sg_cat1 hR.2.2 w (sg_ir_ok (List.all_eq_true.mp hA w h1))
  have hl := lv_entry (As.map (sg_v G)) (n := N.2.2.1) (by rw [sg_sl_len _ hcat, List.length_map]; exact hlen)
  have hlocks := B.notSynchronized
  rw [lg_entry_eq]
  refine ev a ha l G p e s m _ below meth c s.heap [] _ 0 0 _ ⟨B.exec, B.bytes, hml, by rw [ho]; exact hown, fun w hw => hts0 w (List.mem_cons_of_mem _ hw), hK, hT, hR⟩ ⟨hP, hD, va_S.rf⟩ ?_ ⟨Nat.zero_le _, Nat.zero_le _⟩ ?_
  · refine ⟨hl.1, hl.2.1, fun i v hv => ?_⟩
    have h1 : As[i]? = some v := by
      rw [List.getElem?_map] at hv
      cases h : As[i]? with
      | none => rw [h] at hv; cases hv
      | some w => rw [h] at hv; simp at hv; rw [hv]
    have := sg_args_in (As.map (sg_v G)) 0 hcat i (sg_v G v) (by rw [List.getElem?_map, h1]; rfl)
    rw [Nat.zero_add] at this
    exact hl.2.2 _ this
  · intro H' locs' lsA' pc' hH' hn hd
    have h1 := hrk a
    have hq : ∀ t : State, t.heap = H' → s.WarmedH t.vm → sg_Q G (emb2 a) ((As.map (sg_v G)).toArray) s (.returned ((emb2 a).1.map (sg_v G))) t := fun t ht _ => ⟨rfl, by rw [ht]; exact hH'.1, hH'.2.2.F ht⟩
    cases hr : (emb2 a).1 with
    | none =>
      rw [hr] at h1 hd hq
      exact W.vret B.exec B.bytes (by rw [B.returns]; exact h1) hq hH'.2.2.2.2 hd
    | some v =>
      rw [hr] at h1 hd hn hq
      cases v with
      | int x =>
        obtain ⟨ty, hty⟩ := Option.isSome_iff_exists.mp h1
        exact W.zret B.exec B.bytes (ty := ty) (by rw [B.returns]; exact hty) (hn x ty rfl hty) hq hH'.2.2.2.2 hd
      | long x => exact W.lret B.exec B.bytes (by rw [B.returns]; exact h1) hq hH'.2.2.2.2 hd
      | float x => exact absurd h1 (fun h => h)
      | double x => exact absurd h1 (fun h => h)
      | null => exact absurd h1 (fun h => h)
      | ref x => exact absurd h1 (fun h => h)
      | retAddr x => exact absurd h1 (fun h => h)
theorem sg_after {l : Launch} {G : sg_G} {p : Program} {e : Env} {s : State} {m : MethodId} {args : Array Value} {below : List Frame} {meth : Method} {c : Code} {H : Heap} {locs : List Loc} {lsA : Array Slot} {cells slots : Nat} {Q : State → Prop} {r : Option Value × sg_S} {a0 : Array Value} {st0 rest : List Value} (hH : sg_H G σ s H locs)
    (hr : va_Run p l e R s m args below meth c H locs cells slots 0 0 (F0 m pc lsA st0) rest (sg_Q G r a0) (sg_Ad G)) (kk : ∀ (H1 : Heap) (locs1 : List Loc), sg_H G r.2 s H1 locs1 → W p l e R s m args below meth c H1 locs1 cells slots Q (F0 m (pc + 3) lsA ((r.1.map (sg_v G)).toList ++ rest))) : W p l e R s m args below meth c H locs cells slots Q (F0 m pc lsA st0) := by
  intro T hT X
  obtain ⟨v, st₀, t, T', L, h0, X', hL, e1, e2, ⟨hv, hp, hz, hk⟩, st⟩ := hr T hT X
  cases hv
  rw [h0] at hz hk
  obtain ⟨t2, a1, b1⟩ := kk T'.heap (locs ++ L) ⟨by rw [e1]; exact hp, sg_D_any hH.2.1, Nat.le_trans hH.2.2.1 (by rw [e1]; exact hz), fun q h1 h2 => by rw [e1, hk q (Nat.lt_of_lt_of_le h1 hH.2.2.1) h2]; exact hH.2.2.2.1 q h1 h2, fun q hq => by
      rcases List.mem_append.mp hq with h | h
      · exact hH.2.2.2.2 q h
      · exact hL q h⟩ T' rfl X'
  exact ⟨t2, st t2 a1, b1⟩
theorem sg_wd_at {G : sg_G} {p : Program} {s U : State} {m : MethodId} {args : Array Value} {meth : Method} {c : Code} {H : Heap} {locs : List Loc} (C : sg_Cx M G p s m args meth c) (hH : sg_H G σ s H locs) (hU : U.heap = H) (hW : s.WarmedH U.vm) : sg_Wd G σ U := by
  refine ⟨by rw [hU]; exact hH.1, va_K.moved hW.alike C.2.2.2.2.2.1, hH.2.1, ?_, C.2.2.2.2.2.2.2.warm hW⟩
  rw [hU]
  exact (C.2.2.2.2.2.2.1.kept hH.2.2.1 hH.2.2.2.1).moved hW.alike
/-- an object of this class lies at the place -/
def sg_rc (C : String) (k : Nat) : Prop := (∃ (ci : Nat) (fl : List (Option Nat)) (T : u_T) (N : Nat), sg_O k = some (ci, fl) ∧ vwCl[ci]? = some (C, T, N)) ∨ (C = "java/lang/String" ∧ ∃ i, i < 12 ∧ k = 100 + i)
theorem sg_rc_ne {C : String} {k : Nat} (h : sg_rc C k) : k ≠ 140 := by
  rcases h with ⟨ci, fl, T, N, h, -⟩ | ⟨-, i, hi, rfl⟩
  · have := sg_O_lt h; omega
  · omega
theorem sg_recv {G : sg_G} {p : Program} {s : State} {m : MethodId} {args : Array Value} {meth : Method} {c : Code} {H : Heap} {locs : List Loc} {C0 : String} {k : Nat} (C : sg_Cx M G p s m args meth c) (hH : sg_H G σ s H locs) (h : sg_rc C0 k) : ∃ cellB : Cell, H[sg_ad G k]? = some cellB ∧ cellB.vm.isStatics = false ∧ s.vm.findClass C0 = some cellB.cls := by
  rcases h with ⟨ci, fl, T, N, h1, h2⟩ | ⟨rfl, i, hi, rfl⟩
  · exact va_recv C.2.2.2.2.2.1 hH.1 h2 (q0 := k) (by rw [sg_W_at (sg_O_lt h1), sg_E_obj h1])
  · exact vk_recv (i := i) (adK := fun i => sg_ad G (100 + i)) C.2.2.2.2.2.2.1.1 hi hH.2.2
def sg_LV (own : String) (idx : Nat) (C : String) (y : MethodName) (N : sg_M) (n : Nat) : Prop := Cond.methodLink own idx y ∈ tw ∧ Cond.instanceMethod y ∈ tw ∧ Cond.selects C y y ∈ tw ∧ Cond.initialized y.cls ∈ tw ∧ Cond.code y N.2.1 N.2.2.1 N.2.2.2 ∈ tw ∧ (y.cls ≠ "java/lang/invoke/MethodHandle" ∧ y.cls ≠ "java/lang/invoke/VarHandle" ∧ (parseMethodDescriptor y.desc).map (fun d => d.parameters.length) = some n)
def sg_LS (own : String) (idx : Nat) (y : MethodName) (N : sg_M) (n : Nat) : Prop := Cond.methodLink own idx y ∈ tw ∧ Cond.static y ∈ tw ∧ Cond.initialized y.cls ∈ tw ∧ Cond.code y N.2.1 N.2.2.1 N.2.2.2 ∈ tw ∧ (y.cls ≠ "java/lang/invoke/MethodHandle" ∧ y.cls ≠ "java/lang/invoke/VarHandle" ∧ (parseMethodDescriptor y.desc).map (fun d => d.parameters.length) = some n)
/-- the room of a call -/
def sg_fit (N : sg_M) (rm R : Room) : Prop := rm.cells = 0 ∧ rm.slots = 0 ∧ rm.frames + 1 ≤ R.frames ∧ 8 + (N.2.2.1 + 11) + rm.locals ≤ R.locals
/-- rooms by levels -/
abbrev rmL (d : Nat) : Room := { frames := d + 1, cells := 0, slots := 0, locals := 34 * d }
theorem sg_fitL {N : sg_M} {a b : Nat} (h : a < b) (hm : N.2.2.1 ≤ 15) : sg_fit N (rmL a) (rmL b) := ⟨rfl, rfl, by show a + 1 + 1 ≤ b + 1; omega, by show 8 + (N.2.2.1 + 11) + 34 * a ≤ 34 * b; omega⟩
theorem sg_sum : ∀ (l : List Value), (l.map fun v => v.category).sum ≤ 2 * l.length
  | [] => by simp
  | v :: l => by
    have := sg_sum l
    rcases lv_cat v with h | h <;> simp [h] <;> omega
theorem ev_callV {emb2 : β → Option Value × sg_S} {F : Option β} {K : β → Option α} {k0 idx n : Nat} {C0 : String} (hd : Ins M pc nx 3 (.invokevirtual idx)) (hw : sg_LV M.1 idx C0 y N n) (hM : sg_Call y N rm (.ref k0 :: As) σ emb2 F) (hrc : sg_rc C0 k0) (hn : As.length = n) (hs : stk = As.reverse ++ .ref k0 :: st) (hst : st.length ≤ 4) (hR : sg_fit N rm R)
    (kk : ∀ b, Ev M R nx ls ((emb2 b).1.toList ++ st) (emb2 b).2 emb (K b)) : Ev M R pc ls stk σ emb (F.bind K) := by
  intro a ha l G p e s m args below meth c H locs lsA cells slots Q C hH hL hc hF
  cases hF1 : F with
  | none => rw [hF1] at ha; cases ha
  | some b =>
    rw [hF1] at ha
    have ha : K b = some a := ha
    obtain ⟨h1, rfl⟩ := hd
    subst hs
    have hk := sg_rc_ne hrc
    have hm := hM b hF1 l G
    obtain ⟨w1, w2, w3, w4, w5, w6⟩ := hw
    have hts := C.2.2.2.2.1
    have cw : CallW R s args M.1 C0 idx y N.2.1 N.2.2.1 N.2.2.2 (Cond.code y N.2.1 N.2.2.1 N.2.2.2 :: tw) rm 0 0 n := ⟨callB_of n hts (tw_goodIn w5) rfl hR.1 hR.2.1 (hts _ w4) (hts _ w1) w6 hR.2.2, hts _ w2, hts _ w3⟩
    have hrun := va_runV (H := H) (locs := locs) (cells := cells) (slots := slots) (below := below) (meth := meth) (e := e) (b := sg_ad G k0) (As := As.map (sg_v G)) (rest := st.map (sg_v G)) (g := F0 m pc lsA ((As.reverse ++ .ref k0 :: st).map (sg_v G))) (cc := M.2.1) (nL := M.2.2.1) (Ts := tw) ⟨C.1, C.2.1, C.2.2.1, C.2.2.2.1, hts⟩ hm cw
      ⟨sg_Wd.blind _ G σ, sg_recv C hH hrc, fun U hU hW => ⟨by rw [List.map_cons, sg_v_ref G hk], sg_wd_at C hH hU hW⟩⟩ rfl (by rw [List.length_map]; exact hn) hL.1 (by rw [List.map_append, List.map_cons, sg_v_ref G hk, List.map_reverse]) (lv_room (Nat.le_trans (sg_sum _) (by rw [List.length_map]; omega))) h1 ⟨by rw [Nat.add_zero]; exact hc.1, by rw [Nat.add_zero]; exact hc.2⟩
    refine sg_after hH hrun (fun H1 locs1 hH1 => ?_)
    have h3 := kk b a ha l G p e s m args below meth c H1 locs1 lsA cells slots Q C hH1 hL hc hF
    rw [List.map_append] at h3
    cases hv : (emb2 b).1 with
    | none => rw [hv] at h3; exact h3
    | some v => rw [hv] at h3; exact h3
theorem ev_callS {emb2 : β → Option Value × sg_S} {F : Option β} {K : β → Option α} {idx n : Nat} (hd : Ins M pc nx 3 (.invokestatic idx)) (hw : sg_LS M.1 idx y N n) (hM : sg_Call y N rm As σ emb2 F) (hn : As.length = n) (hs : stk = As.reverse ++ st) (hst : st.length ≤ 4) (hR : sg_fit N rm R)
    (kk : ∀ b, Ev M R nx ls ((emb2 b).1.toList ++ st) (emb2 b).2 emb (K b)) : Ev M R pc ls stk σ emb (F.bind K) := by
  intro a ha l G p e s m args below meth c H locs lsA cells slots Q C hH hL hc hF
  cases hF1 : F with
  | none => rw [hF1] at ha; cases ha
  | some b =>
    rw [hF1] at ha
    have ha : K b = some a := ha
    obtain ⟨h1, rfl⟩ := hd
    subst hs
    have hm := hM b hF1 l G
    obtain ⟨w1, w2, w4, w5, w6⟩ := hw
    have hts := C.2.2.2.2.1
    have hrun := va_runS (H := H) (locs := locs) (cells := cells) (slots := slots) (below := below) (meth := meth) (e := e) (As := As.map (sg_v G)) (rest := st.map (sg_v G)) (g := F0 m pc lsA ((As.reverse ++ st).map (sg_v G))) (cc := M.2.1) (nL := M.2.2.1) (Ts := tw) (own := M.1) (index := idx) (bytes := N.2.1) (maxL := N.2.2.1) (ret := N.2.2.2) (n := n) ⟨C.1, C.2.1, C.2.2.1, C.2.2.2.1, hts⟩ hm ⟨callB_of n hts (tw_goodIn w5) rfl hR.1 hR.2.1 (hts _ w4) (hts _ w1) w6 hR.2.2, hts _ w2⟩
      ⟨sg_Wd.blind _ G σ, fun U hU hW => ⟨rfl, sg_wd_at C hH hU hW⟩⟩ rfl (by rw [List.length_map]; exact hn) hL.1 (by rw [List.map_append, List.map_reverse]) (lv_room (Nat.le_trans (sg_sum _) (by rw [List.length_map]; omega))) h1 ⟨by rw [Nat.add_zero]; exact hc.1, by rw [Nat.add_zero]; exact hc.2⟩
    refine sg_after hH hrun (fun H1 locs1 hH1 => ?_)
    have h3 := kk b a ha l G p e s m args below meth c H1 locs1 lsA cells slots Q C hH1 hL hc hF
    rw [List.map_append] at h3
    cases hv : (emb2 b).1 with
    | none => rw [hv] at h3; exact h3
    | some v => rw [hv] at h3; exact h3
/-- the nest mate's static within, from the reader -/
theorem ev_callN {emb2 : β → Option Value × sg_S} {F : Option β} {K : β → Option α} (hd : Ins M pc nx 3 (.invokestatic 62)) (hown : M.1 = RX0) (w2 : Cond.static yX4_within ∈ tw) (w4 : Cond.initialized yX4_within.cls ∈ tw) (w5 : Cond.code yX4_within mX4_within.2.1 mX4_within.2.2.1 mX4_within.2.2.2 ∈ tw) (hM : sg_Call yX4_within mX4_within rm As σ emb2 F) (hn : As.length = 2) (hs : stk = As.reverse ++ st) (hst : st.length ≤ 4) (hR : sg_fit mX4_within rm R)
    (kk : ∀ b, Ev M R nx ls ((emb2 b).1.toList ++ st) (emb2 b).2 emb (K b)) : Ev M R pc ls stk σ emb (F.bind K) := by
  intro a ha l G p e s m args below meth c H locs lsA cells slots Q C hH hL hc hF
  cases hF1 : F with
  | none => rw [hF1] at ha; cases ha
  | some b =>
    rw [hF1] at ha
    have ha : K b = some a := ha
    obtain ⟨h1, rfl⟩ := hd
    subst hs
    have hm := hM b hF1 l G
    have hts := C.2.2.2.2.1
    have hcn : va_CN R s args M.1 62 yX4_within RX4 mX4_within.2.1 mX4_within.2.2.1 mX4_within.2.2.2 (Cond.code yX4_within mX4_within.2.1 mX4_within.2.2.1 mX4_within.2.2.2 :: tw) rm 0 0 2 := va_cnB 2 hts (tw_goodIn w5) rfl hR.1 hR.2.1 (by rw [hown]; exact C.2.2.2.2.2.2.2.2.1) (hts _ w4) (by decide +kernel) hR.2.2
    have hrun := va_runSN (H := H) (locs := locs) (cells := cells) (slots := slots) (below := below) (meth := meth) (e := e) (As := As.map (sg_v G)) (rest := st.map (sg_v G)) (g := F0 m pc lsA ((As.reverse ++ st).map (sg_v G))) (cc := M.2.1) (nL := M.2.2.1) (Ts := tw) ⟨C.1, C.2.1, C.2.2.1, C.2.2.2.1, hts⟩ hm ⟨hcn, hts _ w2, trivial⟩
      ⟨sg_Wd.blind _ G σ, fun U hU hW => ⟨rfl, sg_wd_at C hH hU hW⟩⟩ rfl (by rw [List.length_map]; exact hn) hL.1 (by rw [List.map_append, List.map_reverse]) (lv_room (Nat.le_trans (sg_sum _) (by rw [List.length_map]; omega))) h1 ⟨by rw [Nat.add_zero]; exact hc.1, by rw [Nat.add_zero]; exact hc.2⟩
    refine sg_after hH hrun (fun H1 locs1 hH1 => ?_)
    have h3 := kk b a ha l G p e s m args below meth c H1 locs1 lsA cells slots Q C hH1 hL hc hF
    rw [List.map_append] at h3
    cases hv : (emb2 b).1 with
    | none => rw [hv] at h3; exact h3
    | some v => rw [hv] at h3; exact h3
/-- System.arraycopy of ints -/
def sg_cp (sp dp n : Int32) (n0 n1 : Nat) : Bool := decide (¬ sp < 0) && decide (¬ dp < 0) && decide (¬ n < 0) && decide (sp.toNatClampNeg + n.toNatClampNeg ≤ n0) && decide (dp.toNatClampNeg + n.toNatClampNeg ≤ n1)
def sg_cpy (σ : sg_S) (k0 k1 : Nat) (sp dp n : Int32) : sg_S := sg_up σ k1 (va_cpy (σ k0) (σ k1) sp.toNatClampNeg dp.toNatClampNeg n.toNatClampNeg)
theorem ev_acopy {k0 k1 n0 n1 idx : Nat} {sp dp n : Int32} (hd : Ins M pc nx 3 (.invokestatic idx)) (w1 : Cond.methodLink M.1 idx arraycopyName ∈ tw) (w2 : Cond.native arraycopyName ∈ tw) (w3 : Cond.static arraycopyName ∈ tw) (w4 : Cond.initialized "java/lang/System" ∈ tw) (hA0 : sg_A k0 = some n0) (hA1 : sg_A k1 = some n1) (hst : st.length ≤ 4) (hR : 1 ≤ R.frames ∧ 26 ≤ R.locals)
    (k : Ev M R nx ls st (sg_cpy σ k0 k1 sp dp n) emb X) : Ev M R pc ls (.int n :: .int dp :: .ref k1 :: .int sp :: .ref k0 :: st) σ emb (if sg_cp sp dp n n0 n1 = true then X else none) := by
  intro a ha l G p e s m args below meth c H locs lsA cells slots Q C hH hL hc hF
  obtain ⟨h1, rfl⟩ := hd
  by_cases hi : sg_cp sp dp n n0 n1 = true
  · rw [if_pos hi] at ha
    simp only [sg_cp, Bool.and_eq_true, decide_eq_true_eq] at hi
    have hk0 := sg_A_lt hA0
    have hk1 := sg_A_lt hA1
    have hts := C.2.2.2.2.1
    simp only [List.map_cons]
    rw [sg_v_ref G (k := k0) (by omega), sg_v_ref G (k := k1) (by omega)]
    refine va_copyi C.1 C.2.1 (by rw [C.2.2.1]; exact hL.1.symm) C.2.2.2.1 (hts _ w1) (hts _ w2) (hts _ w3) (hts _ w4) C.2.2.2.2.2.1 hH.1 hH.2.1 hH.2.2 k0 k1 0 0 (ty := .int) (by rw [sg_W_at hk0, sg_E_arr hA0]) (by rw [sg_W_at hk1, sg_E_arr hA1]) rfl rfl rfl hi.1.1.1.1 hi.1.1.1.2 hi.1.1.2 hi.1.2 hi.2 (fun _ _ => rfl) hR.1 ?_ h1 (fun H1 locs1 hP1 hD1 hS1 => ?_)
    · have h5 := sg_sum (st.map (sg_v G))
      rw [List.length_map] at h5
      have h6 : nativeFrameWords "java/lang/System" "arraycopy" 5 = 7 := by decide
      rw [h6]
      omega
    · rw [sg_W_set hk1 (sg_E_arr hA1).symm] at hP1 hD1
      exact k a ha l G p e s m args below meth c H1 locs1 lsA cells slots Q C ⟨hP1, hD1, hS1⟩ hL hc hF
  · rw [if_neg hi] at ha; cases ha
/-! the kinds of answers: read-only int, int with a new state, a new state alone, longs -/
abbrev eRI (σ : sg_S) : Int32 → Option Value × sg_S := fun r => (some (.int r), σ)
abbrev eRL (σ : sg_S) : Int64 → Option Value × sg_S := fun r => (some (.long r), σ)
abbrev eRV (σ : sg_S) : Unit → Option Value × sg_S := fun _ => (none, σ)
abbrev eMI : Int32 × sg_S → Option Value × sg_S := fun r => (some (.int r.1), r.2)
abbrev eML : Int64 × sg_S → Option Value × sg_S := fun r => (some (.long r.1), r.2)
abbrev eMV : sg_S → Option Value × sg_S := fun r => (none, r)
theorem ev_VRI {F : Option (Int32)} {K : Int32 → Option α} {k0 idx n : Nat} {C0 : String} (hd : Ins M pc nx 3 (.invokevirtual idx)) (hw : sg_LV M.1 idx C0 y N n) (hM : sg_Call y N rm (.ref k0 :: As) σ (eRI σ) F) (hrc : sg_rc C0 k0) (hn : As.length = n) (hs : stk = As.reverse ++ .ref k0 :: st) (hst : st.length ≤ 4) (hR : sg_fit N rm R) (kk : ∀ r : Int32, Ev M R nx ls (.int r :: st) σ emb (K r)) : Ev M R pc ls stk σ emb (F.bind K) := ev_callV hd hw hM hrc hn hs hst hR (fun r => kk r)
theorem ev_SRI {F : Option (Int32)} {K : Int32 → Option α} {idx n : Nat} (hd : Ins M pc nx 3 (.invokestatic idx)) (hw : sg_LS M.1 idx y N n) (hM : sg_Call y N rm As σ (eRI σ) F) (hn : As.length = n) (hs : stk = As.reverse ++ st) (hst : st.length ≤ 4) (hR : sg_fit N rm R) (kk : ∀ r : Int32, Ev M R nx ls (.int r :: st) σ emb (K r)) : Ev M R pc ls stk σ emb (F.bind K) := ev_callS hd hw hM hn hs hst hR (fun r => kk r)
theorem ev_VRL {F : Option (Int64)} {K : Int64 → Option α} {k0 idx n : Nat} {C0 : String} (hd : Ins M pc nx 3 (.invokevirtual idx)) (hw : sg_LV M.1 idx C0 y N n) (hM : sg_Call y N rm (.ref k0 :: As) σ (eRL σ) F) (hrc : sg_rc C0 k0) (hn : As.length = n) (hs : stk = As.reverse ++ .ref k0 :: st) (hst : st.length ≤ 4) (hR : sg_fit N rm R) (kk : ∀ r : Int64, Ev M R nx ls (.long r :: st) σ emb (K r)) : Ev M R pc ls stk σ emb (F.bind K) := ev_callV hd hw hM hrc hn hs hst hR (fun r => kk r)
theorem ev_SRL {F : Option (Int64)} {K : Int64 → Option α} {idx n : Nat} (hd : Ins M pc nx 3 (.invokestatic idx)) (hw : sg_LS M.1 idx y N n) (hM : sg_Call y N rm As σ (eRL σ) F) (hn : As.length = n) (hs : stk = As.reverse ++ st) (hst : st.length ≤ 4) (hR : sg_fit N rm R) (kk : ∀ r : Int64, Ev M R nx ls (.long r :: st) σ emb (K r)) : Ev M R pc ls stk σ emb (F.bind K) := ev_callS hd hw hM hn hs hst hR (fun r => kk r)
theorem ev_VRV {F : Option (Unit)} {K : Unit → Option α} {k0 idx n : Nat} {C0 : String} (hd : Ins M pc nx 3 (.invokevirtual idx)) (hw : sg_LV M.1 idx C0 y N n) (hM : sg_Call y N rm (.ref k0 :: As) σ (eRV σ) F) (hrc : sg_rc C0 k0) (hn : As.length = n) (hs : stk = As.reverse ++ .ref k0 :: st) (hst : st.length ≤ 4) (hR : sg_fit N rm R) (kk : ∀ _r : Unit, Ev M R nx ls (st) σ emb (K ())) : Ev M R pc ls stk σ emb (F.bind K) := ev_callV hd hw hM hrc hn hs hst hR (fun r => kk r)
theorem ev_SRV {F : Option (Unit)} {K : Unit → Option α} {idx n : Nat} (hd : Ins M pc nx 3 (.invokestatic idx)) (hw : sg_LS M.1 idx y N n) (hM : sg_Call y N rm As σ (eRV σ) F) (hn : As.length = n) (hs : stk = As.reverse ++ st) (hst : st.length ≤ 4) (hR : sg_fit N rm R) (kk : ∀ _r : Unit, Ev M R nx ls (st) σ emb (K ())) : Ev M R pc ls stk σ emb (F.bind K) := ev_callS hd hw hM hn hs hst hR (fun r => kk r)
theorem ev_VMI {F : Option (Int32 × sg_S)} {K : Int32 × sg_S → Option α} {k0 idx n : Nat} {C0 : String} (hd : Ins M pc nx 3 (.invokevirtual idx)) (hw : sg_LV M.1 idx C0 y N n) (hM : sg_Call y N rm (.ref k0 :: As) σ eMI F) (hrc : sg_rc C0 k0) (hn : As.length = n) (hs : stk = As.reverse ++ .ref k0 :: st) (hst : st.length ≤ 4) (hR : sg_fit N rm R) (kk : ∀ r : Int32 × sg_S, Ev M R nx ls (.int r.1 :: st) r.2 emb (K r)) : Ev M R pc ls stk σ emb (F.bind K) := ev_callV hd hw hM hrc hn hs hst hR (fun r => kk r)
theorem ev_SMI {F : Option (Int32 × sg_S)} {K : Int32 × sg_S → Option α} {idx n : Nat} (hd : Ins M pc nx 3 (.invokestatic idx)) (hw : sg_LS M.1 idx y N n) (hM : sg_Call y N rm As σ eMI F) (hn : As.length = n) (hs : stk = As.reverse ++ st) (hst : st.length ≤ 4) (hR : sg_fit N rm R) (kk : ∀ r : Int32 × sg_S, Ev M R nx ls (.int r.1 :: st) r.2 emb (K r)) : Ev M R pc ls stk σ emb (F.bind K) := ev_callS hd hw hM hn hs hst hR (fun r => kk r)
theorem ev_VML {F : Option (Int64 × sg_S)} {K : Int64 × sg_S → Option α} {k0 idx n : Nat} {C0 : String} (hd : Ins M pc nx 3 (.invokevirtual idx)) (hw : sg_LV M.1 idx C0 y N n) (hM : sg_Call y N rm (.ref k0 :: As) σ eML F) (hrc : sg_rc C0 k0) (hn : As.length = n) (hs : stk = As.reverse ++ .ref k0 :: st) (hst : st.length ≤ 4) (hR : sg_fit N rm R) (kk : ∀ r : Int64 × sg_S, Ev M R nx ls (.long r.1 :: st) r.2 emb (K r)) : Ev M R pc ls stk σ emb (F.bind K) := ev_callV hd hw hM hrc hn hs hst hR (fun r => kk r)
theorem ev_SML {F : Option (Int64 × sg_S)} {K : Int64 × sg_S → Option α} {idx n : Nat} (hd : Ins M pc nx 3 (.invokestatic idx)) (hw : sg_LS M.1 idx y N n) (hM : sg_Call y N rm As σ eML F) (hn : As.length = n) (hs : stk = As.reverse ++ st) (hst : st.length ≤ 4) (hR : sg_fit N rm R) (kk : ∀ r : Int64 × sg_S, Ev M R nx ls (.long r.1 :: st) r.2 emb (K r)) : Ev M R pc ls stk σ emb (F.bind K) := ev_callS hd hw hM hn hs hst hR (fun r => kk r)
theorem ev_VMV {F : Option (sg_S)} {K : sg_S → Option α} {k0 idx n : Nat} {C0 : String} (hd : Ins M pc nx 3 (.invokevirtual idx)) (hw : sg_LV M.1 idx C0 y N n) (hM : sg_Call y N rm (.ref k0 :: As) σ eMV F) (hrc : sg_rc C0 k0) (hn : As.length = n) (hs : stk = As.reverse ++ .ref k0 :: st) (hst : st.length ≤ 4) (hR : sg_fit N rm R) (kk : ∀ r : sg_S, Ev M R nx ls (st) r emb (K r)) : Ev M R pc ls stk σ emb (F.bind K) := ev_callV hd hw hM hrc hn hs hst hR (fun r => kk r)
theorem ev_SMV {F : Option (sg_S)} {K : sg_S → Option α} {idx n : Nat} (hd : Ins M pc nx 3 (.invokestatic idx)) (hw : sg_LS M.1 idx y N n) (hM : sg_Call y N rm As σ eMV F) (hn : As.length = n) (hs : stk = As.reverse ++ st) (hst : st.length ≤ 4) (hR : sg_fit N rm R) (kk : ∀ r : sg_S, Ev M R nx ls (st) r emb (K r)) : Ev M R pc ls stk σ emb (F.bind K) := ev_callS hd hw hM hn hs hst hR (fun r => kk r)
/-! switches -/
def sg_sw {α : Type} (x : Int32) : List (Int32 × Option α) → Option α → Option α
  | [], d => d
  | (v, X) :: l, d => if x = v then X else sg_sw x l d
def EvL (M : sg_M) (R : Room) (ls : List (Option Value)) (st : List Value) (σ : sg_S) {α : Type} (emb : α → sg_X) : List Nat → List (Int32 × Option α) → Prop
  | [], [] => True
  | t :: ts, q :: qs => Ev M R t ls st σ emb q.2 ∧ EvL M R ls st σ emb ts qs
  | _, _ => False
/-- each of these values goes to its target -/
def sg_goes (M : sg_M) (pc : Nat) : List Nat → List (Int32 × Option α) → Prop
  | [], [] => True
  | t :: ts, q :: qs => (∀ (p : Program) (l : Launch) (e : Env) (R : Room) (s : State) (m : MethodId) (args : Array Value) (below : List Frame) (meth : Method) (c : Code) (H : Heap) (locs : List Loc) (cells slots : Nat) (Q : State → Prop) (ls : Array Slot) (rest : List Value), p.tables.exec = Jvm.exec → c.code = M.2.1 → W p l e R s m args below meth c H locs cells slots Q (F0 m t ls rest) → W p l e R s m args below meth c H locs cells slots Q (F0 m pc ls (.int q.1 :: rest))) ∧ sg_goes M pc ts qs
  | _, _ => False
theorem ev_sw {x : Int32} {dt : Nat} (D : Option α) : ∀ (ts : List Nat) (Xs : List (Int32 × Option α)), sg_goes M pc ts Xs → EvL M R ls st σ emb ts Xs → ((∀ q ∈ Xs, x ≠ q.1) → Ev M R pc ls (.int x :: st) σ emb D) → Ev M R pc ls (.int x :: st) σ emb (sg_sw x Xs D)
  | [], [], _, _, hD => hD (fun q h => by cases h)
  | [], _ :: _, h, _, _ => absurd h (fun h => h)
  | _ :: _, [], h, _, _ => absurd h (fun h => h)
  | t :: ts, q :: qs, hg, hE, hD => by
    by_cases hx : x = q.1
    · intro a ha l G p e s m args below meth c H locs lsA cells slots Q C hH hL hc hF
      obtain ⟨v, Y⟩ := q
      simp only [sg_sw] at ha
      rw [if_pos hx] at ha
      rw [hx]
      exact hg.1 p l e R s m args below meth c H locs cells slots Q lsA _ C.1 C.2.1 (hE.1 a ha l G p e s m args below meth c H locs lsA cells slots Q C hH hL hc hF)
    · have h := ev_sw (dt := dt) D ts qs hg.2 hE.2 (fun h => hD (fun z hz => by
        rcases List.mem_cons.mp hz with rfl | hz
        · exact hx
        · exact h z hz))
      obtain ⟨v, Y⟩ := q
      simp only [sg_sw]
      rw [if_neg hx]
      exact h
/-- a table whose entries are lo, lo + 1, .. -/
def sg_tab (pc : Nat) (lo : Int) (offs : Array Int) : Nat → List Nat → List (Int32 × Option α) → Prop
  | _, [], [] => True
  | j, t :: ts, q :: qs => q.1.toInt = lo + j ∧ offs[j]? = some ((t : Int) - pc) ∧ sg_tab pc lo offs (j + 1) ts qs
  | _, _, _ => False
theorem sg_tab_goes {dflt lo hi : Int} {offs : Array Int} {len : Nat} (hd : decode M.2.1 pc = .ok (.tableswitch dflt lo hi offs, len)) : ∀ (ts : List Nat) (Xs : List (Int32 × Option α)) (j : Nat), lo + j + ts.length - 1 ≤ hi → sg_tab pc lo offs j ts Xs → sg_goes M pc ts Xs
  | [], [], _, _, _ => trivial
  | [], _ :: _, _, _, h => absurd h (fun h => h)
  | _ :: _, [], _, _, h => absurd h (fun h => h)
  | t :: ts, q :: qs, j, hj, h => by
    simp only [List.length_cons, Int.natCast_add, Int.natCast_one] at hj
    refine ⟨fun p l e R s m args below meth c H locs cells slots Q ls rest hx hb k => ?_, sg_tab_goes hd ts qs (j + 1) (by simp only [Int.natCast_add, Int.natCast_one]; omega) h.2.2⟩
    exact lv_tableIn (tgt := t) hx hb hd (by rw [h.1]; omega) (by rw [h.1]; omega) (off := (t : Int) - pc) (by rw [h.1, show (lo + (j : Int) - lo).toNat = j by omega]; exact h.2.1) (by omega) k
theorem sg_tab_out {lo : Int} {offs : Array Int} {x : Int32} : ∀ (ts : List Nat) (Xs : List (Int32 × Option α)) (j : Nat), sg_tab pc lo offs j ts Xs → (∀ q ∈ Xs, x ≠ q.1) → x.toInt < lo + j ∨ lo + j + ts.length ≤ x.toInt
  | [], [], j, _, _ => by simp only [List.length_nil, Int.natCast_zero]; omega
  | [], _ :: _, _, h, _ => absurd h (fun h => h)
  | _ :: _, [], _, h, _ => absurd h (fun h => h)
  | t :: ts, q :: qs, j, h, hx => by
    have h1 := sg_tab_out ts qs (j + 1) h.2.2 (fun z hz => hx z (List.mem_cons_of_mem _ hz))
    have h2 : x.toInt ≠ q.1.toInt := fun e => hx q List.mem_cons_self (Int32.toInt_inj.mp e)
    rw [h.1] at h2
    simp only [List.length_cons, Int.natCast_add, Int.natCast_one] at h1 ⊢
    omega
theorem ev_table {x : Int32} {dflt lo hi : Int} {offs : Array Int} {len dt : Nat} {D : Option α} (ts : List Nat) {Xs : List (Int32 × Option α)} (hd : decode M.2.1 pc = .ok (.tableswitch dflt lo hi offs, len)) (hh : lo + ts.length - 1 = hi) (hdt : (pc : Int) + dflt = (dt : Int)) (ht : sg_tab pc lo offs 0 ts Xs) (kd : Ev M R dt ls st σ emb D) (ks : EvL M R ls st σ emb ts Xs) : Ev M R pc ls (.int x :: st) σ emb (sg_sw x Xs D) := by
  refine ev_sw (dt := dt) D ts Xs (sg_tab_goes hd ts Xs 0 (by simp only [Int.natCast_zero]; omega) ht) ks (fun hx => ?_)
  intro a ha l G p e s m args below meth c H locs lsA cells slots Q C hH hL hc hF
  have h1 := sg_tab_out (x := x) ts Xs 0 ht hx
  simp only [Int.natCast_zero] at h1
  exact lv_tableOut (tgt := dt) C.1 C.2.1 hd (by omega) hdt (kd a ha l G p e s m args below meth c H locs lsA cells slots Q C hH hL hc hF)
/-- a lookup: each key's offset, and the default's -/
def sg_look (pc : Nat) : List (Int × Int) → List Nat → List (Int32 × Option α) → Prop
  | [], [], [] => True
  | z :: zs, t :: ts, q :: qs => q.1.toInt = z.1 ∧ z.2 = (t : Int) - pc ∧ sg_look pc zs ts qs
  | _, _, _ => False
theorem ev_lookup2 {x v1 v2 : Int32} {dflt z1 o1 z2 o2 : Int} {len dt t1 t2 : Nat} {D X1 X2 : Option α} (hd : decode M.2.1 pc = .ok (.lookupswitch dflt #[(z1, o1), (z2, o2)], len)) (hz : z1 < z2) (e1 : v1.toInt = z1) (e2 : v2.toInt = z2) (hdt : (pc : Int) + dflt = (dt : Int)) (ht1 : (pc : Int) + o1 = (t1 : Int)) (ht2 : (pc : Int) + o2 = (t2 : Int)) (kd : Ev M R dt ls st σ emb D) (k1 : Ev M R t1 ls st σ emb X1) (k2 : Ev M R t2 ls st σ emb X2) : Ev M R pc ls (.int x :: st) σ emb (sg_sw x [(v1, X1), (v2, X2)] D) := by
  intro a ha l G p e s m args below meth c H locs lsA cells slots Q C hH hL hc hF
  simp only [sg_sw] at ha
  have hp : ((#[(z1, o1), (z2, o2)] : Array (Int × Int)).toList.zip ((#[(z1, o1), (z2, o2)] : Array (Int × Int)).toList.drop 1)).all (fun (a, next) => a.1 < next.1) = true := by simp [hz]
  by_cases h1 : x = v1
  · rw [if_pos h1] at ha
    refine lv_lookup (tgt := t1) C.1 C.2.1 hd hp (off := o1) ?_ ht1 (k1 a ha l G p e s m args below meth c H locs lsA cells slots Q C hH hL hc hF)
    rw [h1, e1]; simp [Op.lookupswitch.offset]
  · rw [if_neg h1] at ha
    have n1 : x.toInt ≠ z1 := fun q => h1 (Int32.toInt_inj.mp (q.trans e1.symm))
    by_cases h2 : x = v2
    · rw [if_pos h2] at ha
      refine lv_lookup (tgt := t2) C.1 C.2.1 hd hp (off := o2) ?_ ht2 (k2 a ha l G p e s m args below meth c H locs lsA cells slots Q C hH hL hc hF)
      rw [h2, e2]; simp [Op.lookupswitch.offset]; intro h; omega
    · rw [if_neg h2] at ha
      have n2 : x.toInt ≠ z2 := fun q => h2 (Int32.toInt_inj.mp (q.trans e2.symm))
      refine lv_lookup (tgt := dt) C.1 C.2.1 hd hp (off := dflt) ?_ hdt (kd a ha l G p e s m args below meth c H locs lsA cells slots Q C hH hL hc hF)
      simp [Op.lookupswitch.offset, n1, n2, Ne.symm n1, Ne.symm n2]
end CL
end
section
/-! the towns and the sheets among the places -/
def sg_isT (b : Nat) : Prop := b = 1 ∨ b = 12 ∨ b = 23 ∨ b = 40
def sg_isS (b : Nat) : Prop := b = 53 ∨ b = 55 ∨ b = 57 ∨ b = 59
theorem isT_1 : sg_isT 1 := Or.inl rfl
theorem isT_12 : sg_isT 12 := Or.inr (Or.inl rfl)
theorem isT_23 : sg_isT 23 := Or.inr (Or.inr (Or.inl rfl))
theorem isT_40 : sg_isT 40 := Or.inr (Or.inr (Or.inr rfl))
theorem isT_O {b : Nat} (h : sg_isT b) : sg_O b = some (3, [some (b + 1), some (b + 2), some (b + 3), some (b + 4), some (b + 5), some (b + 6), some (b + 7), some (b + 8), some (b + 9), some (b + 10), none, none, none, none, none]) := by
  rcases h with rfl | rfl | rfl | rfl <;> rfl
theorem isS_O {b : Nat} (h : sg_isS b) : sg_O b = some (1, [some (b + 1), none, none]) := by
  rcases h with rfl | rfl | rfl | rfl <;> rfl
theorem isS_A {b : Nat} (h : sg_isS b) : sg_A (b + 1) = some 40 := by
  rcases h with rfl | rfl | rfl | rfl <;> rfl
theorem isT_ne {b : Nat} (h : sg_isT b) : b ≠ 140 := by
  rcases h with rfl | rfl | rfl | rfl <;> decide
theorem isS_ne {b : Nat} (h : sg_isS b) : b ≠ 140 := by
  rcases h with rfl | rfl | rfl | rfl <;> decide
theorem isT_nej {b : Nat} (j : Nat) (h : sg_isT b) (hj : j ≤ 10) : b + j ≠ 140 := by
  rcases h with rfl | rfl | rfl | rfl <;> omega
theorem isS_ne1 {b : Nat} (h : sg_isS b) : b + 1 ≠ 140 := by
  rcases h with rfl | rfl | rfl | rfl <;> decide
theorem sg_A_ne {k n : Nat} (h : sg_A k = some n) : k ≠ 140 := by have := sg_A_lt h; omega
theorem sg_isS_of {i : Int32} (h : sg_in i 4 = true) : sg_isS (53 + 2 * i.toNatClampNeg) := by
  simp only [sg_in, Bool.and_eq_true, decide_eq_true_eq] at h
  unfold sg_isS
  omega
theorem sg_lt7 {i : Int32} (h : sg_in i 7 = true) : i.toNatClampNeg < 12 := by
  simp only [sg_in, Bool.and_eq_true, decide_eq_true_eq] at h
  omega
theorem rc_T {b : Nat} (h : sg_isT b) : sg_rc RX3 b := Or.inl ⟨3, _, _, _, isT_O h, rfl⟩
theorem rc_S {b : Nat} (h : sg_isS b) : sg_rc RX1 b := Or.inl ⟨1, _, _, _, isS_O h, rfl⟩
theorem rc_W {i : Nat} (h : i < 12) : sg_rc RJ0 (100 + i) := Or.inr ⟨rfl, i, h, rfl⟩
theorem ne_W {i : Nat} (h : i < 12) : 100 + i ≠ 140 := by omega
theorem ne_B {i : Nat} (h : i < 12) : 120 + i ≠ 140 := by omega
theorem isT_A0 {b : Nat} (h : sg_isT b) : sg_A (b + 1) = some 6 := by
  rcases h with rfl | rfl | rfl | rfl <;> rfl
theorem isT_A1 {b : Nat} (h : sg_isT b) : sg_A (b + 2) = some 8 := by
  rcases h with rfl | rfl | rfl | rfl <;> rfl
theorem isT_A2 {b : Nat} (h : sg_isT b) : sg_A (b + 3) = some 8 := by
  rcases h with rfl | rfl | rfl | rfl <;> rfl
theorem isT_A3 {b : Nat} (h : sg_isT b) : sg_A (b + 4) = some 8 := by
  rcases h with rfl | rfl | rfl | rfl <;> rfl
theorem isT_A4 {b : Nat} (h : sg_isT b) : sg_A (b + 5) = some 8 := by
  rcases h with rfl | rfl | rfl | rfl <;> rfl
theorem isT_A5 {b : Nat} (h : sg_isT b) : sg_A (b + 6) = some 6 := by
  rcases h with rfl | rfl | rfl | rfl <;> rfl
theorem isT_A6 {b : Nat} (h : sg_isT b) : sg_A (b + 7) = some 6 := by
  rcases h with rfl | rfl | rfl | rfl <;> rfl
theorem isT_A7 {b : Nat} (h : sg_isT b) : sg_A (b + 8) = some 6 := by
  rcases h with rfl | rfl | rfl | rfl <;> rfl
theorem isT_A8 {b : Nat} (h : sg_isT b) : sg_A (b + 9) = some 48 := by
  rcases h with rfl | rfl | rfl | rfl <;> rfl
theorem isT_A9 {b : Nat} (h : sg_isT b) : sg_A (b + 10) = some 10 := by
  rcases h with rfl | rfl | rfl | rfl <;> rfl
theorem A_2 : sg_A 2 = some 6 := rfl
theorem A_3 : sg_A 3 = some 8 := rfl
theorem A_4 : sg_A 4 = some 8 := rfl
theorem A_5 : sg_A 5 = some 8 := rfl
theorem A_6 : sg_A 6 = some 8 := rfl
theorem A_7 : sg_A 7 = some 6 := rfl
theorem A_8 : sg_A 8 = some 6 := rfl
theorem A_9 : sg_A 9 = some 6 := rfl
theorem A_10 : sg_A 10 = some 48 := rfl
theorem A_11 : sg_A 11 = some 10 := rfl
theorem A_13 : sg_A 13 = some 6 := rfl
theorem A_14 : sg_A 14 = some 8 := rfl
theorem A_15 : sg_A 15 = some 8 := rfl
theorem A_16 : sg_A 16 = some 8 := rfl
theorem A_17 : sg_A 17 = some 8 := rfl
theorem A_18 : sg_A 18 = some 6 := rfl
theorem A_19 : sg_A 19 = some 6 := rfl
theorem A_20 : sg_A 20 = some 6 := rfl
theorem A_21 : sg_A 21 = some 48 := rfl
theorem A_22 : sg_A 22 = some 10 := rfl
theorem A_24 : sg_A 24 = some 6 := rfl
theorem A_25 : sg_A 25 = some 8 := rfl
theorem A_26 : sg_A 26 = some 8 := rfl
theorem A_27 : sg_A 27 = some 8 := rfl
theorem A_28 : sg_A 28 = some 8 := rfl
theorem A_29 : sg_A 29 = some 6 := rfl
theorem A_30 : sg_A 30 = some 6 := rfl
theorem A_31 : sg_A 31 = some 6 := rfl
theorem A_32 : sg_A 32 = some 48 := rfl
theorem A_33 : sg_A 33 = some 10 := rfl
theorem A_36 : sg_A 36 = some 120 := rfl
theorem A_37 : sg_A 37 = some 121 := rfl
theorem A_38 : sg_A 38 = some 121 := rfl
theorem A_39 : sg_A 39 = some 121 := rfl
theorem A_41 : sg_A 41 = some 6 := rfl
theorem A_42 : sg_A 42 = some 8 := rfl
theorem A_43 : sg_A 43 = some 8 := rfl
theorem A_44 : sg_A 44 = some 8 := rfl
theorem A_45 : sg_A 45 = some 8 := rfl
theorem A_46 : sg_A 46 = some 6 := rfl
theorem A_47 : sg_A 47 = some 6 := rfl
theorem A_48 : sg_A 48 = some 6 := rfl
theorem A_49 : sg_A 49 = some 48 := rfl
theorem A_50 : sg_A 50 = some 10 := rfl
theorem A_51 : sg_A 51 = some 3 := rfl
theorem A_54 : sg_A 54 = some 40 := rfl
theorem A_56 : sg_A 56 = some 40 := rfl
theorem A_58 : sg_A 58 = some 40 := rfl
theorem A_60 : sg_A 60 = some 40 := rfl
theorem A_61 : sg_A 61 = some 7 := rfl
theorem A_63 : sg_A 63 = some 119 := rfl
theorem A_64 : sg_A 64 = some 119 := rfl
theorem A_65 : sg_A 65 = some 119 := rfl
theorem A_66 : sg_A 66 = some 8 := rfl
theorem A_67 : sg_A 67 = some 120 := rfl
theorem A_69 : sg_A 69 = some 480 := rfl
theorem A_70 : sg_A 70 = some 4 := rfl
theorem A_71 : sg_A 71 = some 4 := rfl
theorem A_72 : sg_A 72 = some 160 := rfl
theorem A_73 : sg_A 73 = some 40 := rfl
theorem O_0 : sg_O 0 = some (4, [some 1, some 12, some 23, none, some 34, some 52, some 61]) := rfl
theorem O_1 : sg_O 1 = some (3, [some 2, some 3, some 4, some 5, some 6, some 7, some 8, some 9, some 10, some 11, none, none, none, none, none]) := rfl
theorem O_12 : sg_O 12 = some (3, [some 13, some 14, some 15, some 16, some 17, some 18, some 19, some 20, some 21, some 22, none, none, none, none, none]) := rfl
theorem O_23 : sg_O 23 = some (3, [some 24, some 25, some 26, some 27, some 28, some 29, some 30, some 31, some 32, some 33, none, none, none, none, none]) := rfl
theorem O_34 : sg_O 34 = some (0, [some 35, some 40, some 51, none]) := rfl
theorem O_35 : sg_O 35 = some (2, [some 36, none, some 37, some 38, some 39]) := rfl
theorem O_40 : sg_O 40 = some (3, [some 41, some 42, some 43, some 44, some 45, some 46, some 47, some 48, some 49, some 50, none, none, none, none, none]) := rfl
theorem O_53 : sg_O 53 = some (1, [some 54, none, none]) := rfl
theorem O_55 : sg_O 55 = some (1, [some 56, none, none]) := rfl
theorem O_57 : sg_O 57 = some (1, [some 58, none, none]) := rfl
theorem O_59 : sg_O 59 = some (1, [some 60, none, none]) := rfl
theorem O_62 : sg_O 62 = some (5, [some 63, some 64, some 65, none, some 66, some 67, none, none, none, none, none, none, some 68, some 69, none, none, none, some 70, some 71, some 72, some 73]) := rfl
theorem rc_0 : sg_rc RX4 0 := Or.inl ⟨_, _, _, _, O_0, rfl⟩
theorem rc_62 : sg_rc RX5 62 := Or.inl ⟨_, _, _, _, O_62, rfl⟩
theorem rc_34 : sg_rc RX0 34 := Or.inl ⟨_, _, _, _, O_34, rfl⟩
theorem rc_35 : sg_rc RX2 35 := Or.inl ⟨_, _, _, _, O_35, rfl⟩
end
section
theorem iX0_readTape_0 : Ins mX0_readTape 0 1 1 (.aload_n 0) := ⟨by decide +kernel, rfl⟩
theorem iX0_readTape_1 : Ins mX0_readTape 1 4 3 (.getfield 12) := ⟨by decide +kernel, rfl⟩
theorem iX0_readTape_4 : Ins mX0_readTape 4 7 3 (.invokevirtual 33) := ⟨by decide +kernel, rfl⟩
theorem iX0_readTape_7 : Ins mX0_readTape 7 8 1 (.aload_n 0) := ⟨by decide +kernel, rfl⟩
theorem iX0_readTape_8 : Ins mX0_readTape 8 9 1 (.iconst 0) := ⟨by decide +kernel, rfl⟩
theorem iX0_readTape_9 : Ins mX0_readTape 9 12 3 (.putfield 29) := ⟨by decide +kernel, rfl⟩
theorem iX0_readTape_12 : Ins mX0_readTape 12 13 1 (.iconst 1) := ⟨by decide +kernel, rfl⟩
theorem iX0_readTape_13 : Ins mX0_readTape 13 14 1 (.istore_n 1) := ⟨by decide +kernel, rfl⟩
theorem iX0_readTape_14 : Ins mX0_readTape 14 15 1 (.iload_n 1) := ⟨by decide +kernel, rfl⟩
theorem iX0_readTape_15 : Ins mX0_readTape 15 17 2 (.bipush 120) := ⟨by decide +kernel, rfl⟩
theorem iX0_readTape_17 : InB mX0_readTape 17 20 76 (.if_icmp .gt) := ⟨by decide +kernel, rfl⟩
theorem iX0_readTape_20 : Ins mX0_readTape 20 21 1 (.aload_n 0) := ⟨by decide +kernel, rfl⟩
theorem iX0_readTape_21 : Ins mX0_readTape 21 24 3 (.invokevirtual 36) := ⟨by decide +kernel, rfl⟩
theorem iX0_readTape_24 : InB mX0_readTape 24 27 30 (.ifCond .ne) := ⟨by decide +kernel, rfl⟩
theorem iX0_readTape_27 : InB mX0_readTape 27 30 76 .goto := ⟨by decide +kernel, rfl⟩
theorem iX0_readTape_30 : Ins mX0_readTape 30 31 1 (.aload_n 0) := ⟨by decide +kernel, rfl⟩
theorem iX0_readTape_31 : Ins mX0_readTape 31 34 3 (.getfield 12) := ⟨by decide +kernel, rfl⟩
theorem iX0_readTape_34 : Ins mX0_readTape 34 37 3 (.getfield 40) := ⟨by decide +kernel, rfl⟩
theorem iX0_readTape_37 : Ins mX0_readTape 37 38 1 (.aload_n 0) := ⟨by decide +kernel, rfl⟩
theorem iX0_readTape_38 : Ins mX0_readTape 38 41 3 (.getfield 29) := ⟨by decide +kernel, rfl⟩
theorem iX0_readTape_41 : Ins mX0_readTape 41 42 1 (.iaload) := ⟨by decide +kernel, rfl⟩
theorem iX0_readTape_42 : InB mX0_readTape 42 45 47 (.ifCond .ne) := ⟨by decide +kernel, rfl⟩
theorem iX0_readTape_45 : Ins mX0_readTape 45 46 1 (.iload_n 1) := ⟨by decide +kernel, rfl⟩
theorem iX0_readTape_46 : Ins mX0_readTape 46 47 1 (.ireturn) := ⟨by decide +kernel, rfl⟩
theorem iX0_readTape_47 : Ins mX0_readTape 47 48 1 (.aload_n 0) := ⟨by decide +kernel, rfl⟩
theorem iX0_readTape_48 : Ins mX0_readTape 48 51 3 (.getfield 12) := ⟨by decide +kernel, rfl⟩
theorem iX0_readTape_51 : Ins mX0_readTape 51 54 3 (.getfield 40) := ⟨by decide +kernel, rfl⟩
theorem iX0_readTape_54 : Ins mX0_readTape 54 55 1 (.aload_n 0) := ⟨by decide +kernel, rfl⟩
theorem iX0_readTape_55 : Ins mX0_readTape 55 58 3 (.getfield 29) := ⟨by decide +kernel, rfl⟩
theorem iX0_readTape_58 : Ins mX0_readTape 58 59 1 (.iaload) := ⟨by decide +kernel, rfl⟩
theorem iX0_readTape_59 : Ins mX0_readTape 59 60 1 (.iconst 3) := ⟨by decide +kernel, rfl⟩
theorem iX0_readTape_60 : InB mX0_readTape 60 63 66 (.if_icmp .eq) := ⟨by decide +kernel, rfl⟩
theorem iX0_readTape_63 : InB mX0_readTape 63 66 76 .goto := ⟨by decide +kernel, rfl⟩
theorem iX0_readTape_66 : Ins mX0_readTape 66 67 1 (.aload_n 0) := ⟨by decide +kernel, rfl⟩
theorem iX0_readTape_67 : Ins mX0_readTape 67 70 3 (.invokevirtual 43) := ⟨by decide +kernel, rfl⟩
theorem iX0_readTape_70 : Ins mX0_readTape 70 73 3 (.iinc 1 1) := ⟨by decide +kernel, rfl⟩
theorem iX0_readTape_73 : InB mX0_readTape 73 76 14 .goto := ⟨by decide +kernel, rfl⟩
theorem iX0_readTape_76 : Ins mX0_readTape 76 77 1 (.iconst (-1)) := ⟨by decide +kernel, rfl⟩
theorem iX0_readTape_77 : Ins mX0_readTape 77 78 1 (.aload_n 0) := ⟨by decide +kernel, rfl⟩
theorem iX0_readTape_78 : Ins mX0_readTape 78 81 3 (.getfield 12) := ⟨by decide +kernel, rfl⟩
theorem iX0_readTape_81 : Ins mX0_readTape 81 84 3 (.getfield 46) := ⟨by decide +kernel, rfl⟩
theorem iX0_readTape_84 : Ins mX0_readTape 84 85 1 (.aload_n 0) := ⟨by decide +kernel, rfl⟩
theorem iX0_readTape_85 : Ins mX0_readTape 85 88 3 (.getfield 29) := ⟨by decide +kernel, rfl⟩
theorem iX0_readTape_88 : Ins mX0_readTape 88 89 1 (.iaload) := ⟨by decide +kernel, rfl⟩
theorem iX0_readTape_89 : Ins mX0_readTape 89 90 1 (.isub) := ⟨by decide +kernel, rfl⟩
theorem iX0_readTape_90 : Ins mX0_readTape 90 91 1 (.ireturn) := ⟨by decide +kernel, rfl⟩
theorem iX0_step_0 : Ins mX0_step 0 1 1 (.aload_n 0) := ⟨by decide +kernel, rfl⟩
theorem iX0_step_1 : Ins mX0_step 1 4 3 (.getfield 29) := ⟨by decide +kernel, rfl⟩
theorem iX0_step_4 : Ins mX0_step 4 6 2 (.bipush 120) := ⟨by decide +kernel, rfl⟩
theorem iX0_step_6 : InB mX0_step 6 9 34 (.if_icmp .ge) := ⟨by decide +kernel, rfl⟩
theorem iX0_step_9 : Ins mX0_step 9 10 1 (.aload_n 0) := ⟨by decide +kernel, rfl⟩
theorem iX0_step_10 : Ins mX0_step 10 13 3 (.getfield 12) := ⟨by decide +kernel, rfl⟩
theorem iX0_step_13 : Ins mX0_step 13 16 3 (.getfield 40) := ⟨by decide +kernel, rfl⟩
theorem iX0_step_16 : Ins mX0_step 16 17 1 (.aload_n 0) := ⟨by decide +kernel, rfl⟩
theorem iX0_step_17 : Ins mX0_step 17 20 3 (.getfield 29) := ⟨by decide +kernel, rfl⟩
theorem iX0_step_20 : Ins mX0_step 20 21 1 (.iaload) := ⟨by decide +kernel, rfl⟩
theorem iX0_step_21 : InB mX0_step 21 24 34 (.ifCond .eq) := ⟨by decide +kernel, rfl⟩
theorem iX0_step_24 : Ins mX0_step 24 25 1 (.aload_n 0) := ⟨by decide +kernel, rfl⟩
theorem iX0_step_25 : Ins mX0_step 25 26 1 (.dup) := ⟨by decide +kernel, rfl⟩
theorem iX0_step_26 : Ins mX0_step 26 29 3 (.getfield 29) := ⟨by decide +kernel, rfl⟩
theorem iX0_step_29 : Ins mX0_step 29 30 1 (.iconst 1) := ⟨by decide +kernel, rfl⟩
theorem iX0_step_30 : Ins mX0_step 30 31 1 (.iadd) := ⟨by decide +kernel, rfl⟩
theorem iX0_step_31 : Ins mX0_step 31 34 3 (.putfield 29) := ⟨by decide +kernel, rfl⟩
theorem iX0_step_34 : Ins mX0_step 34 35 1 (.return_) := ⟨by decide +kernel, rfl⟩
theorem iX0_isWord_0 : Ins mX0_isWord 0 1 1 (.aload_n 0) := ⟨by decide +kernel, rfl⟩
theorem iX0_isWord_1 : Ins mX0_isWord 1 4 3 (.getfield 12) := ⟨by decide +kernel, rfl⟩
theorem iX0_isWord_4 : Ins mX0_isWord 4 7 3 (.getfield 40) := ⟨by decide +kernel, rfl⟩
theorem iX0_isWord_7 : Ins mX0_isWord 7 8 1 (.aload_n 0) := ⟨by decide +kernel, rfl⟩
theorem iX0_isWord_8 : Ins mX0_isWord 8 11 3 (.getfield 29) := ⟨by decide +kernel, rfl⟩
theorem iX0_isWord_11 : Ins mX0_isWord 11 12 1 (.iaload) := ⟨by decide +kernel, rfl⟩
theorem iX0_isWord_12 : Ins mX0_isWord 12 13 1 (.iconst 1) := ⟨by decide +kernel, rfl⟩
theorem iX0_isWord_13 : InB mX0_isWord 13 16 36 (.if_icmp .ne) := ⟨by decide +kernel, rfl⟩
theorem iX0_isWord_16 : Ins mX0_isWord 16 17 1 (.aload_n 0) := ⟨by decide +kernel, rfl⟩
theorem iX0_isWord_17 : Ins mX0_isWord 17 20 3 (.getfield 12) := ⟨by decide +kernel, rfl⟩
theorem iX0_isWord_20 : Ins mX0_isWord 20 23 3 (.getfield 49) := ⟨by decide +kernel, rfl⟩
theorem iX0_isWord_23 : Ins mX0_isWord 23 24 1 (.aload_n 0) := ⟨by decide +kernel, rfl⟩
theorem iX0_isWord_24 : Ins mX0_isWord 24 27 3 (.getfield 29) := ⟨by decide +kernel, rfl⟩
theorem iX0_isWord_27 : Ins mX0_isWord 27 28 1 (.iaload) := ⟨by decide +kernel, rfl⟩
theorem iX0_isWord_28 : Ins mX0_isWord 28 29 1 (.iload_n 1) := ⟨by decide +kernel, rfl⟩
theorem iX0_isWord_29 : InB mX0_isWord 29 32 36 (.if_icmp .ne) := ⟨by decide +kernel, rfl⟩
theorem iX0_isWord_32 : Ins mX0_isWord 32 33 1 (.iconst 1) := ⟨by decide +kernel, rfl⟩
theorem iX0_isWord_33 : InB mX0_isWord 33 36 37 .goto := ⟨by decide +kernel, rfl⟩
theorem iX0_isWord_36 : Ins mX0_isWord 36 37 1 (.iconst 0) := ⟨by decide +kernel, rfl⟩
theorem iX0_isWord_37 : Ins mX0_isWord 37 38 1 (.ireturn) := ⟨by decide +kernel, rfl⟩
theorem iX0_isNumber_0 : Ins mX0_isNumber 0 1 1 (.aload_n 0) := ⟨by decide +kernel, rfl⟩
theorem iX0_isNumber_1 : Ins mX0_isNumber 1 4 3 (.getfield 12) := ⟨by decide +kernel, rfl⟩
theorem iX0_isNumber_4 : Ins mX0_isNumber 4 7 3 (.getfield 40) := ⟨by decide +kernel, rfl⟩
theorem iX0_isNumber_7 : Ins mX0_isNumber 7 8 1 (.aload_n 0) := ⟨by decide +kernel, rfl⟩
theorem iX0_isNumber_8 : Ins mX0_isNumber 8 11 3 (.getfield 29) := ⟨by decide +kernel, rfl⟩
theorem iX0_isNumber_11 : Ins mX0_isNumber 11 12 1 (.iaload) := ⟨by decide +kernel, rfl⟩
theorem iX0_isNumber_12 : Ins mX0_isNumber 12 13 1 (.iconst 2) := ⟨by decide +kernel, rfl⟩
theorem iX0_isNumber_13 : InB mX0_isNumber 13 16 36 (.if_icmp .ne) := ⟨by decide +kernel, rfl⟩
theorem iX0_isNumber_16 : Ins mX0_isNumber 16 17 1 (.aload_n 0) := ⟨by decide +kernel, rfl⟩
theorem iX0_isNumber_17 : Ins mX0_isNumber 17 20 3 (.getfield 12) := ⟨by decide +kernel, rfl⟩
theorem iX0_isNumber_20 : Ins mX0_isNumber 20 23 3 (.getfield 49) := ⟨by decide +kernel, rfl⟩
theorem iX0_isNumber_23 : Ins mX0_isNumber 23 24 1 (.aload_n 0) := ⟨by decide +kernel, rfl⟩
theorem iX0_isNumber_24 : Ins mX0_isNumber 24 27 3 (.getfield 29) := ⟨by decide +kernel, rfl⟩
theorem iX0_isNumber_27 : Ins mX0_isNumber 27 28 1 (.iaload) := ⟨by decide +kernel, rfl⟩
theorem iX0_isNumber_28 : Ins mX0_isNumber 28 29 1 (.iload_n 1) := ⟨by decide +kernel, rfl⟩
theorem iX0_isNumber_29 : InB mX0_isNumber 29 32 36 (.if_icmp .gt) := ⟨by decide +kernel, rfl⟩
theorem iX0_isNumber_32 : Ins mX0_isNumber 32 33 1 (.iconst 1) := ⟨by decide +kernel, rfl⟩
theorem iX0_isNumber_33 : InB mX0_isNumber 33 36 37 .goto := ⟨by decide +kernel, rfl⟩
theorem iX0_isNumber_36 : Ins mX0_isNumber 36 37 1 (.iconst 0) := ⟨by decide +kernel, rfl⟩
theorem iX0_isNumber_37 : Ins mX0_isNumber 37 38 1 (.ireturn) := ⟨by decide +kernel, rfl⟩
theorem iX0_readItem_0 : Ins mX0_readItem 0 1 1 (.aload_n 0) := ⟨by decide +kernel, rfl⟩
theorem iX0_readItem_1 : Ins mX0_readItem 1 3 2 (.bipush 7) := ⟨by decide +kernel, rfl⟩
theorem iX0_readItem_3 : Ins mX0_readItem 3 6 3 (.invokevirtual 52) := ⟨by decide +kernel, rfl⟩
theorem iX0_readItem_6 : InB mX0_readItem 6 9 14 (.ifCond .eq) := ⟨by decide +kernel, rfl⟩
theorem iX0_readItem_9 : Ins mX0_readItem 9 10 1 (.aload_n 0) := ⟨by decide +kernel, rfl⟩
theorem iX0_readItem_10 : Ins mX0_readItem 10 13 3 (.invokevirtual 56) := ⟨by decide +kernel, rfl⟩
theorem iX0_readItem_13 : Ins mX0_readItem 13 14 1 (.ireturn) := ⟨by decide +kernel, rfl⟩
theorem iX0_readItem_14 : Ins mX0_readItem 14 15 1 (.aload_n 0) := ⟨by decide +kernel, rfl⟩
theorem iX0_readItem_15 : Ins mX0_readItem 15 17 2 (.bipush 8) := ⟨by decide +kernel, rfl⟩
theorem iX0_readItem_17 : Ins mX0_readItem 17 20 3 (.invokevirtual 52) := ⟨by decide +kernel, rfl⟩
theorem iX0_readItem_20 : InB mX0_readItem 20 23 28 (.ifCond .eq) := ⟨by decide +kernel, rfl⟩
theorem iX0_readItem_23 : Ins mX0_readItem 23 24 1 (.aload_n 0) := ⟨by decide +kernel, rfl⟩
theorem iX0_readItem_24 : Ins mX0_readItem 24 27 3 (.invokevirtual 59) := ⟨by decide +kernel, rfl⟩
theorem iX0_readItem_27 : Ins mX0_readItem 27 28 1 (.ireturn) := ⟨by decide +kernel, rfl⟩
theorem iX0_readItem_28 : Ins mX0_readItem 28 29 1 (.aload_n 0) := ⟨by decide +kernel, rfl⟩
theorem iX0_readItem_29 : Ins mX0_readItem 29 32 3 (.getfield 12) := ⟨by decide +kernel, rfl⟩
theorem iX0_readItem_32 : Ins mX0_readItem 32 35 3 (.getfield 40) := ⟨by decide +kernel, rfl⟩
theorem iX0_readItem_35 : Ins mX0_readItem 35 36 1 (.aload_n 0) := ⟨by decide +kernel, rfl⟩
theorem iX0_readItem_36 : Ins mX0_readItem 36 39 3 (.getfield 29) := ⟨by decide +kernel, rfl⟩
theorem iX0_readItem_39 : Ins mX0_readItem 39 40 1 (.iaload) := ⟨by decide +kernel, rfl⟩
theorem iX0_readItem_40 : Ins mX0_readItem 40 41 1 (.iconst 1) := ⟨by decide +kernel, rfl⟩
theorem iX0_readItem_41 : InB mX0_readItem 41 44 59 (.if_icmp .ne) := ⟨by decide +kernel, rfl⟩
theorem iX0_readItem_44 : Ins mX0_readItem 44 45 1 (.aload_n 0) := ⟨by decide +kernel, rfl⟩
theorem iX0_readItem_45 : Ins mX0_readItem 45 48 3 (.getfield 12) := ⟨by decide +kernel, rfl⟩
theorem iX0_readItem_48 : Ins mX0_readItem 48 51 3 (.getfield 49) := ⟨by decide +kernel, rfl⟩
theorem iX0_readItem_51 : Ins mX0_readItem 51 52 1 (.aload_n 0) := ⟨by decide +kernel, rfl⟩
theorem iX0_readItem_52 : Ins mX0_readItem 52 55 3 (.getfield 29) := ⟨by decide +kernel, rfl⟩
theorem iX0_readItem_55 : Ins mX0_readItem 55 56 1 (.iaload) := ⟨by decide +kernel, rfl⟩
theorem iX0_readItem_56 : InB mX0_readItem 56 59 60 .goto := ⟨by decide +kernel, rfl⟩
theorem iX0_readItem_59 : Ins mX0_readItem 59 60 1 (.iconst (-1)) := ⟨by decide +kernel, rfl⟩
theorem iX0_readItem_60 : Ins mX0_readItem 60 61 1 (.istore_n 1) := ⟨by decide +kernel, rfl⟩
theorem iX0_readItem_61 : Ins mX0_readItem 61 62 1 (.iload_n 1) := ⟨by decide +kernel, rfl⟩
theorem iX0_readItem_62 : Ins mX0_readItem 62 64 2 (.bipush 6) := ⟨by decide +kernel, rfl⟩
theorem iX0_readItem_64 : Ins mX0_readItem 64 67 3 (.invokestatic 62) := ⟨by decide +kernel, rfl⟩
theorem iX0_readItem_67 : InB mX0_readItem 67 70 82 (.ifCond .eq) := ⟨by decide +kernel, rfl⟩
theorem iX0_readItem_70 : Ins mX0_readItem 70 71 1 (.aload_n 0) := ⟨by decide +kernel, rfl⟩
theorem iX0_readItem_71 : Ins mX0_readItem 71 72 1 (.iload_n 1) := ⟨by decide +kernel, rfl⟩
theorem iX0_readItem_72 : Ins mX0_readItem 72 75 3 (.invokevirtual 66) := ⟨by decide +kernel, rfl⟩
theorem iX0_readItem_75 : InB mX0_readItem 75 78 82 (.ifCond .eq) := ⟨by decide +kernel, rfl⟩
theorem iX0_readItem_78 : Ins mX0_readItem 78 79 1 (.iconst 1) := ⟨by decide +kernel, rfl⟩
theorem iX0_readItem_79 : InB mX0_readItem 79 82 83 .goto := ⟨by decide +kernel, rfl⟩
theorem iX0_readItem_82 : Ins mX0_readItem 82 83 1 (.iconst 0) := ⟨by decide +kernel, rfl⟩
theorem iX0_readItem_83 : Ins mX0_readItem 83 84 1 (.ireturn) := ⟨by decide +kernel, rfl⟩
theorem iX0_readPerson_0 : Ins mX0_readPerson 0 1 1 (.aload_n 0) := ⟨by decide +kernel, rfl⟩
theorem iX0_readPerson_1 : Ins mX0_readPerson 1 4 3 (.getfield 21) := ⟨by decide +kernel, rfl⟩
theorem iX0_readPerson_4 : Ins mX0_readPerson 4 7 3 (.getfield 69) := ⟨by decide +kernel, rfl⟩
theorem iX0_readPerson_7 : Ins mX0_readPerson 7 9 2 (.bipush 8) := ⟨by decide +kernel, rfl⟩
theorem iX0_readPerson_9 : InB mX0_readPerson 9 12 14 (.if_icmp .lt) := ⟨by decide +kernel, rfl⟩
theorem iX0_readPerson_12 : Ins mX0_readPerson 12 13 1 (.iconst 0) := ⟨by decide +kernel, rfl⟩
theorem iX0_readPerson_13 : Ins mX0_readPerson 13 14 1 (.ireturn) := ⟨by decide +kernel, rfl⟩
theorem iX0_readPerson_14 : Ins mX0_readPerson 14 15 1 (.aload_n 0) := ⟨by decide +kernel, rfl⟩
theorem iX0_readPerson_15 : Ins mX0_readPerson 15 18 3 (.invokevirtual 43) := ⟨by decide +kernel, rfl⟩
theorem iX0_readPerson_18 : Ins mX0_readPerson 18 19 1 (.iconst 5) := ⟨by decide +kernel, rfl⟩
theorem iX0_readPerson_19 : Ins mX0_readPerson 19 20 1 (.istore_n 2) := ⟨by decide +kernel, rfl⟩
theorem iX0_readPerson_20 : Ins mX0_readPerson 20 21 1 (.aload_n 0) := ⟨by decide +kernel, rfl⟩
theorem iX0_readPerson_21 : Ins mX0_readPerson 21 23 2 (.bipush 9) := ⟨by decide +kernel, rfl⟩
theorem iX0_readPerson_23 : Ins mX0_readPerson 23 26 3 (.invokevirtual 52) := ⟨by decide +kernel, rfl⟩
theorem iX0_readPerson_26 : InB mX0_readPerson 26 29 61 (.ifCond .eq) := ⟨by decide +kernel, rfl⟩
theorem iX0_readPerson_29 : Ins mX0_readPerson 29 30 1 (.aload_n 0) := ⟨by decide +kernel, rfl⟩
theorem iX0_readPerson_30 : Ins mX0_readPerson 30 33 3 (.invokevirtual 43) := ⟨by decide +kernel, rfl⟩
theorem iX0_readPerson_33 : Ins mX0_readPerson 33 34 1 (.aload_n 0) := ⟨by decide +kernel, rfl⟩
theorem iX0_readPerson_34 : Ins mX0_readPerson 34 36 2 (.bipush 9) := ⟨by decide +kernel, rfl⟩
theorem iX0_readPerson_36 : Ins mX0_readPerson 36 39 3 (.invokevirtual 72) := ⟨by decide +kernel, rfl⟩
theorem iX0_readPerson_39 : InB mX0_readPerson 39 42 44 (.ifCond .ne) := ⟨by decide +kernel, rfl⟩
theorem iX0_readPerson_42 : Ins mX0_readPerson 42 43 1 (.iconst 0) := ⟨by decide +kernel, rfl⟩
theorem iX0_readPerson_43 : Ins mX0_readPerson 43 44 1 (.ireturn) := ⟨by decide +kernel, rfl⟩
theorem iX0_readPerson_44 : Ins mX0_readPerson 44 45 1 (.aload_n 0) := ⟨by decide +kernel, rfl⟩
theorem iX0_readPerson_45 : Ins mX0_readPerson 45 48 3 (.getfield 12) := ⟨by decide +kernel, rfl⟩
theorem iX0_readPerson_48 : Ins mX0_readPerson 48 51 3 (.getfield 49) := ⟨by decide +kernel, rfl⟩
theorem iX0_readPerson_51 : Ins mX0_readPerson 51 52 1 (.aload_n 0) := ⟨by decide +kernel, rfl⟩
theorem iX0_readPerson_52 : Ins mX0_readPerson 52 55 3 (.getfield 29) := ⟨by decide +kernel, rfl⟩
theorem iX0_readPerson_55 : Ins mX0_readPerson 55 56 1 (.iaload) := ⟨by decide +kernel, rfl⟩
theorem iX0_readPerson_56 : Ins mX0_readPerson 56 57 1 (.istore_n 2) := ⟨by decide +kernel, rfl⟩
theorem iX0_readPerson_57 : Ins mX0_readPerson 57 58 1 (.aload_n 0) := ⟨by decide +kernel, rfl⟩
theorem iX0_readPerson_58 : Ins mX0_readPerson 58 61 3 (.invokevirtual 43) := ⟨by decide +kernel, rfl⟩
theorem iX0_readPerson_61 : Ins mX0_readPerson 61 62 1 (.iconst 0) := ⟨by decide +kernel, rfl⟩
theorem iX0_readPerson_62 : Ins mX0_readPerson 62 63 1 (.istore_n 3) := ⟨by decide +kernel, rfl⟩
theorem iX0_readPerson_63 : Ins mX0_readPerson 63 64 1 (.aload_n 0) := ⟨by decide +kernel, rfl⟩
theorem iX0_readPerson_64 : Ins mX0_readPerson 64 66 2 (.bipush 10) := ⟨by decide +kernel, rfl⟩
theorem iX0_readPerson_66 : Ins mX0_readPerson 66 69 3 (.invokevirtual 52) := ⟨by decide +kernel, rfl⟩
theorem iX0_readPerson_69 : InB mX0_readPerson 69 72 78 (.ifCond .eq) := ⟨by decide +kernel, rfl⟩
theorem iX0_readPerson_72 : Ins mX0_readPerson 72 73 1 (.iconst 1) := ⟨by decide +kernel, rfl⟩
theorem iX0_readPerson_73 : Ins mX0_readPerson 73 74 1 (.istore_n 3) := ⟨by decide +kernel, rfl⟩
theorem iX0_readPerson_74 : Ins mX0_readPerson 74 75 1 (.aload_n 0) := ⟨by decide +kernel, rfl⟩
theorem iX0_readPerson_75 : Ins mX0_readPerson 75 78 3 (.invokevirtual 43) := ⟨by decide +kernel, rfl⟩
theorem iX0_readPerson_78 : Ins mX0_readPerson 78 79 1 (.aload_n 0) := ⟨by decide +kernel, rfl⟩
theorem iX0_readPerson_79 : Ins mX0_readPerson 79 82 3 (.getfield 21) := ⟨by decide +kernel, rfl⟩
theorem iX0_readPerson_82 : Ins mX0_readPerson 82 83 1 (.iload_n 1) := ⟨by decide +kernel, rfl⟩
theorem iX0_readPerson_83 : Ins mX0_readPerson 83 84 1 (.iload_n 2) := ⟨by decide +kernel, rfl⟩
theorem iX0_readPerson_84 : Ins mX0_readPerson 84 85 1 (.iload_n 3) := ⟨by decide +kernel, rfl⟩
theorem iX0_readPerson_85 : Ins mX0_readPerson 85 88 3 (.invokevirtual 75) := ⟨by decide +kernel, rfl⟩
theorem iX0_readPerson_88 : Ins mX0_readPerson 88 89 1 (.pop) := ⟨by decide +kernel, rfl⟩
theorem iX0_readPerson_89 : Ins mX0_readPerson 89 90 1 (.iconst 1) := ⟨by decide +kernel, rfl⟩
theorem iX0_readPerson_90 : Ins mX0_readPerson 90 91 1 (.ireturn) := ⟨by decide +kernel, rfl⟩
theorem iX0_readSaying_0 : Ins mX0_readSaying 0 1 1 (.aload_n 0) := ⟨by decide +kernel, rfl⟩
theorem iX0_readSaying_1 : Ins mX0_readSaying 1 4 3 (.getfield 21) := ⟨by decide +kernel, rfl⟩
theorem iX0_readSaying_4 : Ins mX0_readSaying 4 7 3 (.getfield 79) := ⟨by decide +kernel, rfl⟩
theorem iX0_readSaying_7 : Ins mX0_readSaying 7 9 2 (.bipush 6) := ⟨by decide +kernel, rfl⟩
theorem iX0_readSaying_9 : InB mX0_readSaying 9 12 32 (.if_icmp .ge) := ⟨by decide +kernel, rfl⟩
theorem iX0_readSaying_12 : Ins mX0_readSaying 12 13 1 (.aload_n 0) := ⟨by decide +kernel, rfl⟩
theorem iX0_readSaying_13 : Ins mX0_readSaying 13 14 1 (.aload_n 0) := ⟨by decide +kernel, rfl⟩
theorem iX0_readSaying_14 : Ins mX0_readSaying 14 17 3 (.getfield 21) := ⟨by decide +kernel, rfl⟩
theorem iX0_readSaying_17 : Ins mX0_readSaying 17 20 3 (.getfield 69) := ⟨by decide +kernel, rfl⟩
theorem iX0_readSaying_20 : Ins mX0_readSaying 20 21 1 (.iconst 1) := ⟨by decide +kernel, rfl⟩
theorem iX0_readSaying_21 : Ins mX0_readSaying 21 22 1 (.isub) := ⟨by decide +kernel, rfl⟩
theorem iX0_readSaying_22 : Ins mX0_readSaying 22 24 2 (.bipush 7) := ⟨by decide +kernel, rfl⟩
theorem iX0_readSaying_24 : Ins mX0_readSaying 24 26 2 (.bipush 9) := ⟨by decide +kernel, rfl⟩
theorem iX0_readSaying_26 : Ins mX0_readSaying 26 29 3 (.invokevirtual 82) := ⟨by decide +kernel, rfl⟩
theorem iX0_readSaying_29 : InB mX0_readSaying 29 32 34 (.ifCond .ne) := ⟨by decide +kernel, rfl⟩
theorem iX0_readSaying_32 : Ins mX0_readSaying 32 33 1 (.iconst 0) := ⟨by decide +kernel, rfl⟩
theorem iX0_readSaying_33 : Ins mX0_readSaying 33 34 1 (.ireturn) := ⟨by decide +kernel, rfl⟩
theorem iX0_readSaying_34 : Ins mX0_readSaying 34 35 1 (.aload_n 0) := ⟨by decide +kernel, rfl⟩
theorem iX0_readSaying_35 : Ins mX0_readSaying 35 38 3 (.getfield 21) := ⟨by decide +kernel, rfl⟩
theorem iX0_readSaying_38 : Ins mX0_readSaying 38 39 1 (.aload_n 0) := ⟨by decide +kernel, rfl⟩
theorem iX0_readSaying_39 : Ins mX0_readSaying 39 42 3 (.getfield 25) := ⟨by decide +kernel, rfl⟩
theorem iX0_readSaying_42 : Ins mX0_readSaying 42 43 1 (.iconst 0) := ⟨by decide +kernel, rfl⟩
theorem iX0_readSaying_43 : Ins mX0_readSaying 43 44 1 (.iaload) := ⟨by decide +kernel, rfl⟩
theorem iX0_readSaying_44 : Ins mX0_readSaying 44 45 1 (.aload_n 0) := ⟨by decide +kernel, rfl⟩
theorem iX0_readSaying_45 : Ins mX0_readSaying 45 48 3 (.getfield 25) := ⟨by decide +kernel, rfl⟩
theorem iX0_readSaying_48 : Ins mX0_readSaying 48 49 1 (.iconst 1) := ⟨by decide +kernel, rfl⟩
theorem iX0_readSaying_49 : Ins mX0_readSaying 49 50 1 (.iaload) := ⟨by decide +kernel, rfl⟩
theorem iX0_readSaying_50 : Ins mX0_readSaying 50 51 1 (.aload_n 0) := ⟨by decide +kernel, rfl⟩
theorem iX0_readSaying_51 : Ins mX0_readSaying 51 54 3 (.getfield 25) := ⟨by decide +kernel, rfl⟩
theorem iX0_readSaying_54 : Ins mX0_readSaying 54 55 1 (.iconst 2) := ⟨by decide +kernel, rfl⟩
theorem iX0_readSaying_55 : Ins mX0_readSaying 55 56 1 (.iaload) := ⟨by decide +kernel, rfl⟩
theorem iX0_readSaying_56 : Ins mX0_readSaying 56 59 3 (.invokevirtual 86) := ⟨by decide +kernel, rfl⟩
theorem iX0_readSaying_59 : Ins mX0_readSaying 59 60 1 (.pop) := ⟨by decide +kernel, rfl⟩
theorem iX0_readSaying_60 : Ins mX0_readSaying 60 61 1 (.iconst 1) := ⟨by decide +kernel, rfl⟩
theorem iX0_readSaying_61 : Ins mX0_readSaying 61 62 1 (.ireturn) := ⟨by decide +kernel, rfl⟩
theorem iX0_readTalk_0 : Ins mX0_readTalk 0 1 1 (.aload_n 0) := ⟨by decide +kernel, rfl⟩
theorem iX0_readTalk_1 : Ins mX0_readTalk 1 2 1 (.iconst 5) := ⟨by decide +kernel, rfl⟩
theorem iX0_readTalk_2 : Ins mX0_readTalk 2 4 2 (.bipush 7) := ⟨by decide +kernel, rfl⟩
theorem iX0_readTalk_4 : Ins mX0_readTalk 4 6 2 (.bipush 7) := ⟨by decide +kernel, rfl⟩
theorem iX0_readTalk_6 : Ins mX0_readTalk 6 9 3 (.invokevirtual 82) := ⟨by decide +kernel, rfl⟩
theorem iX0_readTalk_9 : InB mX0_readTalk 9 12 14 (.ifCond .ne) := ⟨by decide +kernel, rfl⟩
theorem iX0_readTalk_12 : Ins mX0_readTalk 12 13 1 (.iconst 0) := ⟨by decide +kernel, rfl⟩
theorem iX0_readTalk_13 : Ins mX0_readTalk 13 14 1 (.ireturn) := ⟨by decide +kernel, rfl⟩
theorem iX0_readTalk_14 : Ins mX0_readTalk 14 15 1 (.aload_n 0) := ⟨by decide +kernel, rfl⟩
theorem iX0_readTalk_15 : Ins mX0_readTalk 15 18 3 (.getfield 21) := ⟨by decide +kernel, rfl⟩
theorem iX0_readTalk_18 : Ins mX0_readTalk 18 21 3 (.getfield 89) := ⟨by decide +kernel, rfl⟩
theorem iX0_readTalk_21 : Ins mX0_readTalk 21 22 1 (.aload_n 0) := ⟨by decide +kernel, rfl⟩
theorem iX0_readTalk_22 : Ins mX0_readTalk 22 25 3 (.getfield 25) := ⟨by decide +kernel, rfl⟩
theorem iX0_readTalk_25 : Ins mX0_readTalk 25 26 1 (.iconst 0) := ⟨by decide +kernel, rfl⟩
theorem iX0_readTalk_26 : Ins mX0_readTalk 26 27 1 (.iaload) := ⟨by decide +kernel, rfl⟩
theorem iX0_readTalk_27 : Ins mX0_readTalk 27 29 2 (.bipush 10) := ⟨by decide +kernel, rfl⟩
theorem iX0_readTalk_29 : Ins mX0_readTalk 29 30 1 (.aload_n 0) := ⟨by decide +kernel, rfl⟩
theorem iX0_readTalk_30 : Ins mX0_readTalk 30 33 3 (.getfield 25) := ⟨by decide +kernel, rfl⟩
theorem iX0_readTalk_33 : Ins mX0_readTalk 33 34 1 (.iconst 1) := ⟨by decide +kernel, rfl⟩
theorem iX0_readTalk_34 : Ins mX0_readTalk 34 35 1 (.iaload) := ⟨by decide +kernel, rfl⟩
theorem iX0_readTalk_35 : Ins mX0_readTalk 35 36 1 (.imul) := ⟨by decide +kernel, rfl⟩
theorem iX0_readTalk_36 : Ins mX0_readTalk 36 37 1 (.aload_n 0) := ⟨by decide +kernel, rfl⟩
theorem iX0_readTalk_37 : Ins mX0_readTalk 37 40 3 (.getfield 25) := ⟨by decide +kernel, rfl⟩
theorem iX0_readTalk_40 : Ins mX0_readTalk 40 41 1 (.iconst 2) := ⟨by decide +kernel, rfl⟩
theorem iX0_readTalk_41 : Ins mX0_readTalk 41 42 1 (.iaload) := ⟨by decide +kernel, rfl⟩
theorem iX0_readTalk_42 : Ins mX0_readTalk 42 43 1 (.iadd) := ⟨by decide +kernel, rfl⟩
theorem iX0_readTalk_43 : Ins mX0_readTalk 43 44 1 (.iastore) := ⟨by decide +kernel, rfl⟩
theorem iX0_readTalk_44 : Ins mX0_readTalk 44 45 1 (.iconst 1) := ⟨by decide +kernel, rfl⟩
theorem iX0_readTalk_45 : Ins mX0_readTalk 45 46 1 (.ireturn) := ⟨by decide +kernel, rfl⟩
theorem iX0_readNumbers_0 : Ins mX0_readNumbers 0 1 1 (.iconst 0) := ⟨by decide +kernel, rfl⟩
theorem iX0_readNumbers_1 : Ins mX0_readNumbers 1 3 2 (.istore 4) := ⟨by decide +kernel, rfl⟩
theorem iX0_readNumbers_3 : Ins mX0_readNumbers 3 5 2 (.iload 4) := ⟨by decide +kernel, rfl⟩
theorem iX0_readNumbers_5 : Ins mX0_readNumbers 5 6 1 (.aload_n 0) := ⟨by decide +kernel, rfl⟩
theorem iX0_readNumbers_6 : Ins mX0_readNumbers 6 9 3 (.getfield 25) := ⟨by decide +kernel, rfl⟩
theorem iX0_readNumbers_9 : Ins mX0_readNumbers 9 10 1 (.arraylength) := ⟨by decide +kernel, rfl⟩
theorem iX0_readNumbers_10 : InB mX0_readNumbers 10 13 75 (.if_icmp .ge) := ⟨by decide +kernel, rfl⟩
theorem iX0_readNumbers_13 : Ins mX0_readNumbers 13 14 1 (.aload_n 0) := ⟨by decide +kernel, rfl⟩
theorem iX0_readNumbers_14 : Ins mX0_readNumbers 14 17 3 (.invokevirtual 43) := ⟨by decide +kernel, rfl⟩
theorem iX0_readNumbers_17 : Ins mX0_readNumbers 17 19 2 (.iload 4) := ⟨by decide +kernel, rfl⟩
theorem iX0_readNumbers_19 : InB mX0_readNumbers 19 22 26 (.ifCond .ne) := ⟨by decide +kernel, rfl⟩
theorem iX0_readNumbers_22 : Ins mX0_readNumbers 22 23 1 (.iload_n 1) := ⟨by decide +kernel, rfl⟩
theorem iX0_readNumbers_23 : InB mX0_readNumbers 23 26 37 .goto := ⟨by decide +kernel, rfl⟩
theorem iX0_readNumbers_26 : Ins mX0_readNumbers 26 28 2 (.iload 4) := ⟨by decide +kernel, rfl⟩
theorem iX0_readNumbers_28 : Ins mX0_readNumbers 28 29 1 (.iconst 1) := ⟨by decide +kernel, rfl⟩
theorem iX0_readNumbers_29 : InB mX0_readNumbers 29 32 36 (.if_icmp .ne) := ⟨by decide +kernel, rfl⟩
theorem iX0_readNumbers_32 : Ins mX0_readNumbers 32 33 1 (.iload_n 2) := ⟨by decide +kernel, rfl⟩
theorem iX0_readNumbers_33 : InB mX0_readNumbers 33 36 37 .goto := ⟨by decide +kernel, rfl⟩
theorem iX0_readNumbers_36 : Ins mX0_readNumbers 36 37 1 (.iload_n 3) := ⟨by decide +kernel, rfl⟩
theorem iX0_readNumbers_37 : Ins mX0_readNumbers 37 39 2 (.istore 5) := ⟨by decide +kernel, rfl⟩
theorem iX0_readNumbers_39 : Ins mX0_readNumbers 39 40 1 (.aload_n 0) := ⟨by decide +kernel, rfl⟩
theorem iX0_readNumbers_40 : Ins mX0_readNumbers 40 42 2 (.iload 5) := ⟨by decide +kernel, rfl⟩
theorem iX0_readNumbers_42 : Ins mX0_readNumbers 42 45 3 (.invokevirtual 72) := ⟨by decide +kernel, rfl⟩
theorem iX0_readNumbers_45 : InB mX0_readNumbers 45 48 50 (.ifCond .ne) := ⟨by decide +kernel, rfl⟩
theorem iX0_readNumbers_48 : Ins mX0_readNumbers 48 49 1 (.iconst 0) := ⟨by decide +kernel, rfl⟩
theorem iX0_readNumbers_49 : Ins mX0_readNumbers 49 50 1 (.ireturn) := ⟨by decide +kernel, rfl⟩
theorem iX0_readNumbers_50 : Ins mX0_readNumbers 50 51 1 (.aload_n 0) := ⟨by decide +kernel, rfl⟩
theorem iX0_readNumbers_51 : Ins mX0_readNumbers 51 54 3 (.getfield 25) := ⟨by decide +kernel, rfl⟩
theorem iX0_readNumbers_54 : Ins mX0_readNumbers 54 56 2 (.iload 4) := ⟨by decide +kernel, rfl⟩
theorem iX0_readNumbers_56 : Ins mX0_readNumbers 56 57 1 (.aload_n 0) := ⟨by decide +kernel, rfl⟩
theorem iX0_readNumbers_57 : Ins mX0_readNumbers 57 60 3 (.getfield 12) := ⟨by decide +kernel, rfl⟩
theorem iX0_readNumbers_60 : Ins mX0_readNumbers 60 63 3 (.getfield 49) := ⟨by decide +kernel, rfl⟩
theorem iX0_readNumbers_63 : Ins mX0_readNumbers 63 64 1 (.aload_n 0) := ⟨by decide +kernel, rfl⟩
theorem iX0_readNumbers_64 : Ins mX0_readNumbers 64 67 3 (.getfield 29) := ⟨by decide +kernel, rfl⟩
theorem iX0_readNumbers_67 : Ins mX0_readNumbers 67 68 1 (.iaload) := ⟨by decide +kernel, rfl⟩
theorem iX0_readNumbers_68 : Ins mX0_readNumbers 68 69 1 (.iastore) := ⟨by decide +kernel, rfl⟩
theorem iX0_readNumbers_69 : Ins mX0_readNumbers 69 72 3 (.iinc 4 1) := ⟨by decide +kernel, rfl⟩
theorem iX0_readNumbers_72 : InB mX0_readNumbers 72 75 3 .goto := ⟨by decide +kernel, rfl⟩
theorem iX0_readNumbers_75 : Ins mX0_readNumbers 75 76 1 (.aload_n 0) := ⟨by decide +kernel, rfl⟩
theorem iX0_readNumbers_76 : Ins mX0_readNumbers 76 79 3 (.invokevirtual 43) := ⟨by decide +kernel, rfl⟩
theorem iX0_readNumbers_79 : Ins mX0_readNumbers 79 80 1 (.iconst 1) := ⟨by decide +kernel, rfl⟩
theorem iX0_readNumbers_80 : Ins mX0_readNumbers 80 81 1 (.ireturn) := ⟨by decide +kernel, rfl⟩
theorem iX1_renew_0 : Ins mX1_renew 0 1 1 (.aload_n 0) := ⟨by decide +kernel, rfl⟩
theorem iX1_renew_1 : Ins mX1_renew 1 2 1 (.iload_n 1) := ⟨by decide +kernel, rfl⟩
theorem iX1_renew_2 : Ins mX1_renew 2 5 3 (.putfield 15) := ⟨by decide +kernel, rfl⟩
theorem iX1_renew_5 : Ins mX1_renew 5 6 1 (.aload_n 0) := ⟨by decide +kernel, rfl⟩
theorem iX1_renew_6 : Ins mX1_renew 6 7 1 (.iload_n 2) := ⟨by decide +kernel, rfl⟩
theorem iX1_renew_7 : Ins mX1_renew 7 10 3 (.putfield 19) := ⟨by decide +kernel, rfl⟩
theorem iX1_renew_10 : Ins mX1_renew 10 11 1 (.aload_n 0) := ⟨by decide +kernel, rfl⟩
theorem iX1_renew_11 : Ins mX1_renew 11 14 3 (.getfield 9) := ⟨by decide +kernel, rfl⟩
theorem iX1_renew_14 : Ins mX1_renew 14 15 1 (.iconst 0) := ⟨by decide +kernel, rfl⟩
theorem iX1_renew_15 : Ins mX1_renew 15 18 3 (.invokestatic 22) := ⟨by decide +kernel, rfl⟩
theorem iX1_renew_18 : Ins mX1_renew 18 19 1 (.return_) := ⟨by decide +kernel, rfl⟩
theorem iX1_put_0 : Ins mX1_put 0 1 1 (.aload_n 0) := ⟨by decide +kernel, rfl⟩
theorem iX1_put_1 : Ins mX1_put 1 4 3 (.getfield 15) := ⟨by decide +kernel, rfl⟩
theorem iX1_put_4 : Ins mX1_put 4 6 2 (.bipush 8) := ⟨by decide +kernel, rfl⟩
theorem iX1_put_6 : InB mX1_put 6 9 20 (.if_icmp .ne) := ⟨by decide +kernel, rfl⟩
theorem iX1_put_9 : Ins mX1_put 9 10 1 (.aload_n 0) := ⟨by decide +kernel, rfl⟩
theorem iX1_put_10 : Ins mX1_put 10 13 3 (.getfield 9) := ⟨by decide +kernel, rfl⟩
theorem iX1_put_13 : Ins mX1_put 13 14 1 (.iload_n 1) := ⟨by decide +kernel, rfl⟩
theorem iX1_put_14 : Ins mX1_put 14 15 1 (.iload_n 2) := ⟨by decide +kernel, rfl⟩
theorem iX1_put_15 : Ins mX1_put 15 16 1 (.i2b) := ⟨by decide +kernel, rfl⟩
theorem iX1_put_16 : Ins mX1_put 16 17 1 (.iastore) := ⟨by decide +kernel, rfl⟩
theorem iX1_put_17 : InB mX1_put 17 20 47 .goto := ⟨by decide +kernel, rfl⟩
theorem iX1_put_20 : Ins mX1_put 20 21 1 (.aload_n 0) := ⟨by decide +kernel, rfl⟩
theorem iX1_put_21 : Ins mX1_put 21 24 3 (.getfield 15) := ⟨by decide +kernel, rfl⟩
theorem iX1_put_24 : Ins mX1_put 24 26 2 (.bipush 16) := ⟨by decide +kernel, rfl⟩
theorem iX1_put_26 : InB mX1_put 26 29 40 (.if_icmp .ne) := ⟨by decide +kernel, rfl⟩
theorem iX1_put_29 : Ins mX1_put 29 30 1 (.aload_n 0) := ⟨by decide +kernel, rfl⟩
theorem iX1_put_30 : Ins mX1_put 30 33 3 (.getfield 9) := ⟨by decide +kernel, rfl⟩
theorem iX1_put_33 : Ins mX1_put 33 34 1 (.iload_n 1) := ⟨by decide +kernel, rfl⟩
theorem iX1_put_34 : Ins mX1_put 34 35 1 (.iload_n 2) := ⟨by decide +kernel, rfl⟩
theorem iX1_put_35 : Ins mX1_put 35 36 1 (.i2s) := ⟨by decide +kernel, rfl⟩
theorem iX1_put_36 : Ins mX1_put 36 37 1 (.iastore) := ⟨by decide +kernel, rfl⟩
theorem iX1_put_37 : InB mX1_put 37 40 47 .goto := ⟨by decide +kernel, rfl⟩
theorem iX1_put_40 : Ins mX1_put 40 41 1 (.aload_n 0) := ⟨by decide +kernel, rfl⟩
theorem iX1_put_41 : Ins mX1_put 41 44 3 (.getfield 9) := ⟨by decide +kernel, rfl⟩
theorem iX1_put_44 : Ins mX1_put 44 45 1 (.iload_n 1) := ⟨by decide +kernel, rfl⟩
theorem iX1_put_45 : Ins mX1_put 45 46 1 (.iload_n 2) := ⟨by decide +kernel, rfl⟩
theorem iX1_put_46 : Ins mX1_put 46 47 1 (.iastore) := ⟨by decide +kernel, rfl⟩
theorem iX1_put_47 : Ins mX1_put 47 48 1 (.return_) := ⟨by decide +kernel, rfl⟩
theorem iX1_has_0 : Ins mX1_has 0 1 1 (.iload_n 2) := ⟨by decide +kernel, rfl⟩
theorem iX1_has_1 : InB mX1_has 1 4 30 (.ifCond .lt) := ⟨by decide +kernel, rfl⟩
theorem iX1_has_4 : Ins mX1_has 4 5 1 (.iload_n 1) := ⟨by decide +kernel, rfl⟩
theorem iX1_has_5 : InB mX1_has 5 8 30 (.ifCond .lt) := ⟨by decide +kernel, rfl⟩
theorem iX1_has_8 : Ins mX1_has 8 9 1 (.iload_n 1) := ⟨by decide +kernel, rfl⟩
theorem iX1_has_9 : Ins mX1_has 9 10 1 (.aload_n 0) := ⟨by decide +kernel, rfl⟩
theorem iX1_has_10 : Ins mX1_has 10 13 3 (.getfield 19) := ⟨by decide +kernel, rfl⟩
theorem iX1_has_13 : InB mX1_has 13 16 30 (.if_icmp .gt) := ⟨by decide +kernel, rfl⟩
theorem iX1_has_16 : Ins mX1_has 16 17 1 (.iload_n 2) := ⟨by decide +kernel, rfl⟩
theorem iX1_has_17 : Ins mX1_has 17 18 1 (.aload_n 0) := ⟨by decide +kernel, rfl⟩
theorem iX1_has_18 : Ins mX1_has 18 21 3 (.getfield 19) := ⟨by decide +kernel, rfl⟩
theorem iX1_has_21 : Ins mX1_has 21 22 1 (.iload_n 1) := ⟨by decide +kernel, rfl⟩
theorem iX1_has_22 : Ins mX1_has 22 23 1 (.isub) := ⟨by decide +kernel, rfl⟩
theorem iX1_has_23 : InB mX1_has 23 26 30 (.if_icmp .gt) := ⟨by decide +kernel, rfl⟩
theorem iX1_has_26 : Ins mX1_has 26 27 1 (.iconst 1) := ⟨by decide +kernel, rfl⟩
theorem iX1_has_27 : InB mX1_has 27 30 31 .goto := ⟨by decide +kernel, rfl⟩
theorem iX1_has_30 : Ins mX1_has 30 31 1 (.iconst 0) := ⟨by decide +kernel, rfl⟩
theorem iX1_has_31 : Ins mX1_has 31 32 1 (.ireturn) := ⟨by decide +kernel, rfl⟩
theorem iX1_allows_0 : Ins mX1_allows 0 1 1 (.aload_n 0) := ⟨by decide +kernel, rfl⟩
theorem iX1_allows_1 : Ins mX1_allows 1 4 3 (.getfield 9) := ⟨by decide +kernel, rfl⟩
theorem iX1_allows_4 : Ins mX1_allows 4 5 1 (.iload_n 1) := ⟨by decide +kernel, rfl⟩
theorem iX1_allows_5 : Ins mX1_allows 5 6 1 (.iaload) := ⟨by decide +kernel, rfl⟩
theorem iX1_allows_6 : Ins mX1_allows 6 7 1 (.iconst (-1)) := ⟨by decide +kernel, rfl⟩
theorem iX1_allows_7 : InB mX1_allows 7 10 20 (.if_icmp .eq) := ⟨by decide +kernel, rfl⟩
theorem iX1_allows_10 : Ins mX1_allows 10 11 1 (.aload_n 0) := ⟨by decide +kernel, rfl⟩
theorem iX1_allows_11 : Ins mX1_allows 11 14 3 (.getfield 9) := ⟨by decide +kernel, rfl⟩
theorem iX1_allows_14 : Ins mX1_allows 14 15 1 (.iload_n 1) := ⟨by decide +kernel, rfl⟩
theorem iX1_allows_15 : Ins mX1_allows 15 16 1 (.iaload) := ⟨by decide +kernel, rfl⟩
theorem iX1_allows_16 : Ins mX1_allows 16 17 1 (.iload_n 2) := ⟨by decide +kernel, rfl⟩
theorem iX1_allows_17 : InB mX1_allows 17 20 24 (.if_icmp .ne) := ⟨by decide +kernel, rfl⟩
theorem iX1_allows_20 : Ins mX1_allows 20 21 1 (.iconst 1) := ⟨by decide +kernel, rfl⟩
theorem iX1_allows_21 : InB mX1_allows 21 24 25 .goto := ⟨by decide +kernel, rfl⟩
theorem iX1_allows_24 : Ins mX1_allows 24 25 1 (.iconst 0) := ⟨by decide +kernel, rfl⟩
theorem iX1_allows_25 : Ins mX1_allows 25 26 1 (.ireturn) := ⟨by decide +kernel, rfl⟩
theorem iX2_append_0 : Ins mX2_append 0 1 1 (.aload_n 0) := ⟨by decide +kernel, rfl⟩
theorem iX2_append_1 : Ins mX2_append 1 4 3 (.getfield 9) := ⟨by decide +kernel, rfl⟩
theorem iX2_append_4 : Ins mX2_append 4 5 1 (.aload_n 0) := ⟨by decide +kernel, rfl⟩
theorem iX2_append_5 : Ins mX2_append 5 8 3 (.getfield 15) := ⟨by decide +kernel, rfl⟩
theorem iX2_append_8 : Ins mX2_append 8 9 1 (.iload_n 1) := ⟨by decide +kernel, rfl⟩
theorem iX2_append_9 : Ins mX2_append 9 10 1 (.iastore) := ⟨by decide +kernel, rfl⟩
theorem iX2_append_10 : Ins mX2_append 10 11 1 (.aload_n 0) := ⟨by decide +kernel, rfl⟩
theorem iX2_append_11 : Ins mX2_append 11 12 1 (.dup) := ⟨by decide +kernel, rfl⟩
theorem iX2_append_12 : Ins mX2_append 12 15 3 (.getfield 15) := ⟨by decide +kernel, rfl⟩
theorem iX2_append_15 : Ins mX2_append 15 16 1 (.iconst 1) := ⟨by decide +kernel, rfl⟩
theorem iX2_append_16 : Ins mX2_append 16 17 1 (.iadd) := ⟨by decide +kernel, rfl⟩
theorem iX2_append_17 : Ins mX2_append 17 20 3 (.putfield 15) := ⟨by decide +kernel, rfl⟩
theorem iX2_append_20 : Ins mX2_append 20 21 1 (.return_) := ⟨by decide +kernel, rfl⟩
theorem iX2_cut_0 : Ins mX2_cut 0 1 1 (.iconst 0) := ⟨by decide +kernel, rfl⟩
theorem iX2_cut_1 : Ins mX2_cut 1 2 1 (.istore_n 1) := ⟨by decide +kernel, rfl⟩
theorem iX2_cut_2 : Ins mX2_cut 2 3 1 (.iconst 0) := ⟨by decide +kernel, rfl⟩
theorem iX2_cut_3 : Ins mX2_cut 3 4 1 (.istore_n 2) := ⟨by decide +kernel, rfl⟩
theorem iX2_cut_4 : Ins mX2_cut 4 5 1 (.iload_n 2) := ⟨by decide +kernel, rfl⟩
theorem iX2_cut_5 : Ins mX2_cut 5 6 1 (.aload_n 0) := ⟨by decide +kernel, rfl⟩
theorem iX2_cut_6 : Ins mX2_cut 6 9 3 (.getfield 15) := ⟨by decide +kernel, rfl⟩
theorem iX2_cut_9 : InB mX2_cut 9 12 51 (.if_icmp .ge) := ⟨by decide +kernel, rfl⟩
theorem iX2_cut_12 : Ins mX2_cut 12 13 1 (.aload_n 0) := ⟨by decide +kernel, rfl⟩
theorem iX2_cut_13 : Ins mX2_cut 13 16 3 (.getfield 9) := ⟨by decide +kernel, rfl⟩
theorem iX2_cut_16 : Ins mX2_cut 16 17 1 (.iload_n 2) := ⟨by decide +kernel, rfl⟩
theorem iX2_cut_17 : Ins mX2_cut 17 18 1 (.iaload) := ⟨by decide +kernel, rfl⟩
theorem iX2_cut_18 : Ins mX2_cut 18 20 2 (.bipush 32) := ⟨by decide +kernel, rfl⟩
theorem iX2_cut_20 : InB mX2_cut 20 23 45 (.if_icmp .eq) := ⟨by decide +kernel, rfl⟩
theorem iX2_cut_23 : Ins mX2_cut 23 24 1 (.aload_n 0) := ⟨by decide +kernel, rfl⟩
theorem iX2_cut_24 : Ins mX2_cut 24 25 1 (.iload_n 2) := ⟨by decide +kernel, rfl⟩
theorem iX2_cut_25 : Ins mX2_cut 25 28 3 (.invokevirtual 28) := ⟨by decide +kernel, rfl⟩
theorem iX2_cut_28 : InB mX2_cut 28 31 45 (.ifCond .ne) := ⟨by decide +kernel, rfl⟩
theorem iX2_cut_31 : Ins mX2_cut 31 32 1 (.aload_n 0) := ⟨by decide +kernel, rfl⟩
theorem iX2_cut_32 : Ins mX2_cut 32 33 1 (.iload_n 1) := ⟨by decide +kernel, rfl⟩
theorem iX2_cut_33 : Ins mX2_cut 33 34 1 (.iload_n 2) := ⟨by decide +kernel, rfl⟩
theorem iX2_cut_34 : Ins mX2_cut 34 35 1 (.aload_n 0) := ⟨by decide +kernel, rfl⟩
theorem iX2_cut_35 : Ins mX2_cut 35 36 1 (.iload_n 2) := ⟨by decide +kernel, rfl⟩
theorem iX2_cut_36 : Ins mX2_cut 36 39 3 (.invokevirtual 32) := ⟨by decide +kernel, rfl⟩
theorem iX2_cut_39 : Ins mX2_cut 39 42 3 (.invokevirtual 36) := ⟨by decide +kernel, rfl⟩
theorem iX2_cut_42 : Ins mX2_cut 42 45 3 (.iinc 1 1) := ⟨by decide +kernel, rfl⟩
theorem iX2_cut_45 : Ins mX2_cut 45 48 3 (.iinc 2 1) := ⟨by decide +kernel, rfl⟩
theorem iX2_cut_48 : InB mX2_cut 48 51 4 .goto := ⟨by decide +kernel, rfl⟩
theorem iX2_cut_51 : Ins mX2_cut 51 52 1 (.aload_n 0) := ⟨by decide +kernel, rfl⟩
theorem iX2_cut_52 : Ins mX2_cut 52 55 3 (.getfield 19) := ⟨by decide +kernel, rfl⟩
theorem iX2_cut_55 : Ins mX2_cut 55 56 1 (.iload_n 1) := ⟨by decide +kernel, rfl⟩
theorem iX2_cut_56 : Ins mX2_cut 56 57 1 (.iconst 0) := ⟨by decide +kernel, rfl⟩
theorem iX2_cut_57 : Ins mX2_cut 57 58 1 (.iastore) := ⟨by decide +kernel, rfl⟩
theorem iX2_cut_58 : Ins mX2_cut 58 59 1 (.aload_n 0) := ⟨by decide +kernel, rfl⟩
theorem iX2_cut_59 : Ins mX2_cut 59 62 3 (.getfield 22) := ⟨by decide +kernel, rfl⟩
theorem iX2_cut_62 : Ins mX2_cut 62 63 1 (.iload_n 1) := ⟨by decide +kernel, rfl⟩
theorem iX2_cut_63 : Ins mX2_cut 63 64 1 (.aload_n 0) := ⟨by decide +kernel, rfl⟩
theorem iX2_cut_64 : Ins mX2_cut 64 67 3 (.getfield 15) := ⟨by decide +kernel, rfl⟩
theorem iX2_cut_67 : Ins mX2_cut 67 68 1 (.iastore) := ⟨by decide +kernel, rfl⟩
theorem iX2_cut_68 : Ins mX2_cut 68 69 1 (.aload_n 0) := ⟨by decide +kernel, rfl⟩
theorem iX2_cut_69 : Ins mX2_cut 69 72 3 (.getfield 25) := ⟨by decide +kernel, rfl⟩
theorem iX2_cut_72 : Ins mX2_cut 72 73 1 (.iload_n 1) := ⟨by decide +kernel, rfl⟩
theorem iX2_cut_73 : Ins mX2_cut 73 74 1 (.iconst 0) := ⟨by decide +kernel, rfl⟩
theorem iX2_cut_74 : Ins mX2_cut 74 75 1 (.iastore) := ⟨by decide +kernel, rfl⟩
theorem iX2_cut_75 : Ins mX2_cut 75 76 1 (.return_) := ⟨by decide +kernel, rfl⟩
theorem iX2_goesOn_0 : Ins mX2_goesOn 0 1 1 (.iload_n 1) := ⟨by decide +kernel, rfl⟩
theorem iX2_goesOn_1 : InB mX2_goesOn 1 4 60 (.ifCond .le) := ⟨by decide +kernel, rfl⟩
theorem iX2_goesOn_4 : Ins mX2_goesOn 4 5 1 (.aload_n 0) := ⟨by decide +kernel, rfl⟩
theorem iX2_goesOn_5 : Ins mX2_goesOn 5 8 3 (.getfield 9) := ⟨by decide +kernel, rfl⟩
theorem iX2_goesOn_8 : Ins mX2_goesOn 8 9 1 (.iload_n 1) := ⟨by decide +kernel, rfl⟩
theorem iX2_goesOn_9 : Ins mX2_goesOn 9 10 1 (.iconst 1) := ⟨by decide +kernel, rfl⟩
theorem iX2_goesOn_10 : Ins mX2_goesOn 10 11 1 (.isub) := ⟨by decide +kernel, rfl⟩
theorem iX2_goesOn_11 : Ins mX2_goesOn 11 12 1 (.iaload) := ⟨by decide +kernel, rfl⟩
theorem iX2_goesOn_12 : Ins mX2_goesOn 12 15 3 (.invokestatic 40) := ⟨by decide +kernel, rfl⟩
theorem iX2_goesOn_15 : InB mX2_goesOn 15 18 30 (.ifCond .eq) := ⟨by decide +kernel, rfl⟩
theorem iX2_goesOn_18 : Ins mX2_goesOn 18 19 1 (.aload_n 0) := ⟨by decide +kernel, rfl⟩
theorem iX2_goesOn_19 : Ins mX2_goesOn 19 22 3 (.getfield 9) := ⟨by decide +kernel, rfl⟩
theorem iX2_goesOn_22 : Ins mX2_goesOn 22 23 1 (.iload_n 1) := ⟨by decide +kernel, rfl⟩
theorem iX2_goesOn_23 : Ins mX2_goesOn 23 24 1 (.iaload) := ⟨by decide +kernel, rfl⟩
theorem iX2_goesOn_24 : Ins mX2_goesOn 24 27 3 (.invokestatic 40) := ⟨by decide +kernel, rfl⟩
theorem iX2_goesOn_27 : InB mX2_goesOn 27 30 56 (.ifCond .ne) := ⟨by decide +kernel, rfl⟩
theorem iX2_goesOn_30 : Ins mX2_goesOn 30 31 1 (.aload_n 0) := ⟨by decide +kernel, rfl⟩
theorem iX2_goesOn_31 : Ins mX2_goesOn 31 34 3 (.getfield 9) := ⟨by decide +kernel, rfl⟩
theorem iX2_goesOn_34 : Ins mX2_goesOn 34 35 1 (.iload_n 1) := ⟨by decide +kernel, rfl⟩
theorem iX2_goesOn_35 : Ins mX2_goesOn 35 36 1 (.iconst 1) := ⟨by decide +kernel, rfl⟩
theorem iX2_goesOn_36 : Ins mX2_goesOn 36 37 1 (.isub) := ⟨by decide +kernel, rfl⟩
theorem iX2_goesOn_37 : Ins mX2_goesOn 37 38 1 (.iaload) := ⟨by decide +kernel, rfl⟩
theorem iX2_goesOn_38 : Ins mX2_goesOn 38 41 3 (.invokestatic 43) := ⟨by decide +kernel, rfl⟩
theorem iX2_goesOn_41 : InB mX2_goesOn 41 44 60 (.ifCond .eq) := ⟨by decide +kernel, rfl⟩
theorem iX2_goesOn_44 : Ins mX2_goesOn 44 45 1 (.aload_n 0) := ⟨by decide +kernel, rfl⟩
theorem iX2_goesOn_45 : Ins mX2_goesOn 45 48 3 (.getfield 9) := ⟨by decide +kernel, rfl⟩
theorem iX2_goesOn_48 : Ins mX2_goesOn 48 49 1 (.iload_n 1) := ⟨by decide +kernel, rfl⟩
theorem iX2_goesOn_49 : Ins mX2_goesOn 49 50 1 (.iaload) := ⟨by decide +kernel, rfl⟩
theorem iX2_goesOn_50 : Ins mX2_goesOn 50 53 3 (.invokestatic 43) := ⟨by decide +kernel, rfl⟩
theorem iX2_goesOn_53 : InB mX2_goesOn 53 56 60 (.ifCond .eq) := ⟨by decide +kernel, rfl⟩
theorem iX2_goesOn_56 : Ins mX2_goesOn 56 57 1 (.iconst 1) := ⟨by decide +kernel, rfl⟩
theorem iX2_goesOn_57 : InB mX2_goesOn 57 60 61 .goto := ⟨by decide +kernel, rfl⟩
theorem iX2_goesOn_60 : Ins mX2_goesOn 60 61 1 (.iconst 0) := ⟨by decide +kernel, rfl⟩
theorem iX2_goesOn_61 : Ins mX2_goesOn 61 62 1 (.ireturn) := ⟨by decide +kernel, rfl⟩
theorem iX2_tokenEnd_0 : Ins mX2_tokenEnd 0 1 1 (.iload_n 1) := ⟨by decide +kernel, rfl⟩
theorem iX2_tokenEnd_1 : Ins mX2_tokenEnd 1 2 1 (.iconst 1) := ⟨by decide +kernel, rfl⟩
theorem iX2_tokenEnd_2 : Ins mX2_tokenEnd 2 3 1 (.iadd) := ⟨by decide +kernel, rfl⟩
theorem iX2_tokenEnd_3 : Ins mX2_tokenEnd 3 4 1 (.istore_n 2) := ⟨by decide +kernel, rfl⟩
theorem iX2_tokenEnd_4 : Ins mX2_tokenEnd 4 5 1 (.iload_n 2) := ⟨by decide +kernel, rfl⟩
theorem iX2_tokenEnd_5 : Ins mX2_tokenEnd 5 6 1 (.aload_n 0) := ⟨by decide +kernel, rfl⟩
theorem iX2_tokenEnd_6 : Ins mX2_tokenEnd 6 9 3 (.getfield 15) := ⟨by decide +kernel, rfl⟩
theorem iX2_tokenEnd_9 : InB mX2_tokenEnd 9 12 26 (.if_icmp .ge) := ⟨by decide +kernel, rfl⟩
theorem iX2_tokenEnd_12 : Ins mX2_tokenEnd 12 13 1 (.aload_n 0) := ⟨by decide +kernel, rfl⟩
theorem iX2_tokenEnd_13 : Ins mX2_tokenEnd 13 14 1 (.iload_n 2) := ⟨by decide +kernel, rfl⟩
theorem iX2_tokenEnd_14 : Ins mX2_tokenEnd 14 17 3 (.invokevirtual 28) := ⟨by decide +kernel, rfl⟩
theorem iX2_tokenEnd_17 : InB mX2_tokenEnd 17 20 26 (.ifCond .eq) := ⟨by decide +kernel, rfl⟩
theorem iX2_tokenEnd_20 : Ins mX2_tokenEnd 20 23 3 (.iinc 2 1) := ⟨by decide +kernel, rfl⟩
theorem iX2_tokenEnd_23 : InB mX2_tokenEnd 23 26 4 .goto := ⟨by decide +kernel, rfl⟩
theorem iX2_tokenEnd_26 : Ins mX2_tokenEnd 26 27 1 (.iload_n 2) := ⟨by decide +kernel, rfl⟩
theorem iX2_tokenEnd_27 : Ins mX2_tokenEnd 27 28 1 (.ireturn) := ⟨by decide +kernel, rfl⟩
theorem iX2_keepToken_0 : Ins mX2_keepToken 0 1 1 (.aload_n 0) := ⟨by decide +kernel, rfl⟩
theorem iX2_keepToken_1 : Ins mX2_keepToken 1 4 3 (.getfield 22) := ⟨by decide +kernel, rfl⟩
theorem iX2_keepToken_4 : Ins mX2_keepToken 4 5 1 (.iload_n 1) := ⟨by decide +kernel, rfl⟩
theorem iX2_keepToken_5 : Ins mX2_keepToken 5 6 1 (.iload_n 2) := ⟨by decide +kernel, rfl⟩
theorem iX2_keepToken_6 : Ins mX2_keepToken 6 7 1 (.iastore) := ⟨by decide +kernel, rfl⟩
theorem iX2_keepToken_7 : Ins mX2_keepToken 7 8 1 (.aload_n 0) := ⟨by decide +kernel, rfl⟩
theorem iX2_keepToken_8 : Ins mX2_keepToken 8 11 3 (.getfield 25) := ⟨by decide +kernel, rfl⟩
theorem iX2_keepToken_11 : Ins mX2_keepToken 11 12 1 (.iload_n 1) := ⟨by decide +kernel, rfl⟩
theorem iX2_keepToken_12 : Ins mX2_keepToken 12 13 1 (.iconst 0) := ⟨by decide +kernel, rfl⟩
theorem iX2_keepToken_13 : Ins mX2_keepToken 13 14 1 (.iastore) := ⟨by decide +kernel, rfl⟩
theorem iX2_keepToken_14 : Ins mX2_keepToken 14 15 1 (.aload_n 0) := ⟨by decide +kernel, rfl⟩
theorem iX2_keepToken_15 : Ins mX2_keepToken 15 18 3 (.getfield 9) := ⟨by decide +kernel, rfl⟩
theorem iX2_keepToken_18 : Ins mX2_keepToken 18 19 1 (.iload_n 2) := ⟨by decide +kernel, rfl⟩
theorem iX2_keepToken_19 : Ins mX2_keepToken 19 20 1 (.iaload) := ⟨by decide +kernel, rfl⟩
theorem iX2_keepToken_20 : Ins mX2_keepToken 20 23 3 (.invokestatic 40) := ⟨by decide +kernel, rfl⟩
theorem iX2_keepToken_23 : InB mX2_keepToken 23 26 48 (.ifCond .eq) := ⟨by decide +kernel, rfl⟩
theorem iX2_keepToken_26 : Ins mX2_keepToken 26 27 1 (.aload_n 0) := ⟨by decide +kernel, rfl⟩
theorem iX2_keepToken_27 : Ins mX2_keepToken 27 30 3 (.getfield 19) := ⟨by decide +kernel, rfl⟩
theorem iX2_keepToken_30 : Ins mX2_keepToken 30 31 1 (.iload_n 1) := ⟨by decide +kernel, rfl⟩
theorem iX2_keepToken_31 : Ins mX2_keepToken 31 32 1 (.iconst 1) := ⟨by decide +kernel, rfl⟩
theorem iX2_keepToken_32 : Ins mX2_keepToken 32 33 1 (.iastore) := ⟨by decide +kernel, rfl⟩
theorem iX2_keepToken_33 : Ins mX2_keepToken 33 34 1 (.aload_n 0) := ⟨by decide +kernel, rfl⟩
theorem iX2_keepToken_34 : Ins mX2_keepToken 34 37 3 (.getfield 25) := ⟨by decide +kernel, rfl⟩
theorem iX2_keepToken_37 : Ins mX2_keepToken 37 38 1 (.iload_n 1) := ⟨by decide +kernel, rfl⟩
theorem iX2_keepToken_38 : Ins mX2_keepToken 38 39 1 (.aload_n 0) := ⟨by decide +kernel, rfl⟩
theorem iX2_keepToken_39 : Ins mX2_keepToken 39 40 1 (.iload_n 2) := ⟨by decide +kernel, rfl⟩
theorem iX2_keepToken_40 : Ins mX2_keepToken 40 41 1 (.iload_n 3) := ⟨by decide +kernel, rfl⟩
theorem iX2_keepToken_41 : Ins mX2_keepToken 41 44 3 (.invokevirtual 46) := ⟨by decide +kernel, rfl⟩
theorem iX2_keepToken_44 : Ins mX2_keepToken 44 45 1 (.iastore) := ⟨by decide +kernel, rfl⟩
theorem iX2_keepToken_45 : InB mX2_keepToken 45 48 104 .goto := ⟨by decide +kernel, rfl⟩
theorem iX2_keepToken_48 : Ins mX2_keepToken 48 49 1 (.aload_n 0) := ⟨by decide +kernel, rfl⟩
theorem iX2_keepToken_49 : Ins mX2_keepToken 49 52 3 (.getfield 9) := ⟨by decide +kernel, rfl⟩
theorem iX2_keepToken_52 : Ins mX2_keepToken 52 53 1 (.iload_n 2) := ⟨by decide +kernel, rfl⟩
theorem iX2_keepToken_53 : Ins mX2_keepToken 53 54 1 (.iaload) := ⟨by decide +kernel, rfl⟩
theorem iX2_keepToken_54 : Ins mX2_keepToken 54 57 3 (.invokestatic 43) := ⟨by decide +kernel, rfl⟩
theorem iX2_keepToken_57 : InB mX2_keepToken 57 60 82 (.ifCond .eq) := ⟨by decide +kernel, rfl⟩
theorem iX2_keepToken_60 : Ins mX2_keepToken 60 61 1 (.aload_n 0) := ⟨by decide +kernel, rfl⟩
theorem iX2_keepToken_61 : Ins mX2_keepToken 61 64 3 (.getfield 19) := ⟨by decide +kernel, rfl⟩
theorem iX2_keepToken_64 : Ins mX2_keepToken 64 65 1 (.iload_n 1) := ⟨by decide +kernel, rfl⟩
theorem iX2_keepToken_65 : Ins mX2_keepToken 65 66 1 (.iconst 2) := ⟨by decide +kernel, rfl⟩
theorem iX2_keepToken_66 : Ins mX2_keepToken 66 67 1 (.iastore) := ⟨by decide +kernel, rfl⟩
theorem iX2_keepToken_67 : Ins mX2_keepToken 67 68 1 (.aload_n 0) := ⟨by decide +kernel, rfl⟩
theorem iX2_keepToken_68 : Ins mX2_keepToken 68 71 3 (.getfield 25) := ⟨by decide +kernel, rfl⟩
theorem iX2_keepToken_71 : Ins mX2_keepToken 71 72 1 (.iload_n 1) := ⟨by decide +kernel, rfl⟩
theorem iX2_keepToken_72 : Ins mX2_keepToken 72 73 1 (.aload_n 0) := ⟨by decide +kernel, rfl⟩
theorem iX2_keepToken_73 : Ins mX2_keepToken 73 74 1 (.iload_n 2) := ⟨by decide +kernel, rfl⟩
theorem iX2_keepToken_74 : Ins mX2_keepToken 74 75 1 (.iload_n 3) := ⟨by decide +kernel, rfl⟩
theorem iX2_keepToken_75 : Ins mX2_keepToken 75 78 3 (.invokevirtual 50) := ⟨by decide +kernel, rfl⟩
theorem iX2_keepToken_78 : Ins mX2_keepToken 78 79 1 (.iastore) := ⟨by decide +kernel, rfl⟩
theorem iX2_keepToken_79 : InB mX2_keepToken 79 82 104 .goto := ⟨by decide +kernel, rfl⟩
theorem iX2_keepToken_82 : Ins mX2_keepToken 82 83 1 (.aload_n 0) := ⟨by decide +kernel, rfl⟩
theorem iX2_keepToken_83 : Ins mX2_keepToken 83 86 3 (.getfield 19) := ⟨by decide +kernel, rfl⟩
theorem iX2_keepToken_86 : Ins mX2_keepToken 86 87 1 (.iload_n 1) := ⟨by decide +kernel, rfl⟩
theorem iX2_keepToken_87 : Ins mX2_keepToken 87 88 1 (.aload_n 0) := ⟨by decide +kernel, rfl⟩
theorem iX2_keepToken_88 : Ins mX2_keepToken 88 91 3 (.getfield 9) := ⟨by decide +kernel, rfl⟩
theorem iX2_keepToken_91 : Ins mX2_keepToken 91 92 1 (.iload_n 2) := ⟨by decide +kernel, rfl⟩
theorem iX2_keepToken_92 : Ins mX2_keepToken 92 93 1 (.iaload) := ⟨by decide +kernel, rfl⟩
theorem iX2_keepToken_93 : Ins mX2_keepToken 93 95 2 (.bipush 59) := ⟨by decide +kernel, rfl⟩
theorem iX2_keepToken_95 : InB mX2_keepToken 95 98 102 (.if_icmp .ne) := ⟨by decide +kernel, rfl⟩
theorem iX2_keepToken_98 : Ins mX2_keepToken 98 99 1 (.iconst 3) := ⟨by decide +kernel, rfl⟩
theorem iX2_keepToken_99 : InB mX2_keepToken 99 102 103 .goto := ⟨by decide +kernel, rfl⟩
theorem iX2_keepToken_102 : Ins mX2_keepToken 102 103 1 (.iconst 4) := ⟨by decide +kernel, rfl⟩
theorem iX2_keepToken_103 : Ins mX2_keepToken 103 104 1 (.iastore) := ⟨by decide +kernel, rfl⟩
theorem iX2_keepToken_104 : Ins mX2_keepToken 104 105 1 (.return_) := ⟨by decide +kernel, rfl⟩
theorem iX2_worth_0 : Ins mX2_worth 0 1 1 (.iconst 0) := ⟨by decide +kernel, rfl⟩
theorem iX2_worth_1 : Ins mX2_worth 1 2 1 (.istore_n 3) := ⟨by decide +kernel, rfl⟩
theorem iX2_worth_2 : Ins mX2_worth 2 3 1 (.iload_n 1) := ⟨by decide +kernel, rfl⟩
theorem iX2_worth_3 : Ins mX2_worth 3 5 2 (.istore 4) := ⟨by decide +kernel, rfl⟩
theorem iX2_worth_5 : Ins mX2_worth 5 7 2 (.iload 4) := ⟨by decide +kernel, rfl⟩
theorem iX2_worth_7 : Ins mX2_worth 7 8 1 (.iload_n 2) := ⟨by decide +kernel, rfl⟩
theorem iX2_worth_8 : InB mX2_worth 8 11 39 (.if_icmp .ge) := ⟨by decide +kernel, rfl⟩
theorem iX2_worth_11 : Ins mX2_worth 11 13 2 (.bipush 10) := ⟨by decide +kernel, rfl⟩
theorem iX2_worth_13 : Ins mX2_worth 13 14 1 (.iload_n 3) := ⟨by decide +kernel, rfl⟩
theorem iX2_worth_14 : Ins mX2_worth 14 15 1 (.imul) := ⟨by decide +kernel, rfl⟩
theorem iX2_worth_15 : Ins mX2_worth 15 16 1 (.aload_n 0) := ⟨by decide +kernel, rfl⟩
theorem iX2_worth_16 : Ins mX2_worth 16 19 3 (.getfield 9) := ⟨by decide +kernel, rfl⟩
theorem iX2_worth_19 : Ins mX2_worth 19 21 2 (.iload 4) := ⟨by decide +kernel, rfl⟩
theorem iX2_worth_21 : Ins mX2_worth 21 22 1 (.iaload) := ⟨by decide +kernel, rfl⟩
theorem iX2_worth_22 : Ins mX2_worth 22 23 1 (.iadd) := ⟨by decide +kernel, rfl⟩
theorem iX2_worth_23 : Ins mX2_worth 23 25 2 (.bipush 48) := ⟨by decide +kernel, rfl⟩
theorem iX2_worth_25 : Ins mX2_worth 25 26 1 (.isub) := ⟨by decide +kernel, rfl⟩
theorem iX2_worth_26 : Ins mX2_worth 26 29 3 (.sipush 10000) := ⟨by decide +kernel, rfl⟩
theorem iX2_worth_29 : Ins mX2_worth 29 32 3 (.invokestatic 53) := ⟨by decide +kernel, rfl⟩
theorem iX2_worth_32 : Ins mX2_worth 32 33 1 (.istore_n 3) := ⟨by decide +kernel, rfl⟩
theorem iX2_worth_33 : Ins mX2_worth 33 36 3 (.iinc 4 1) := ⟨by decide +kernel, rfl⟩
theorem iX2_worth_36 : InB mX2_worth 36 39 5 .goto := ⟨by decide +kernel, rfl⟩
theorem iX2_worth_39 : Ins mX2_worth 39 40 1 (.iload_n 3) := ⟨by decide +kernel, rfl⟩
theorem iX2_worth_40 : Ins mX2_worth 40 41 1 (.ireturn) := ⟨by decide +kernel, rfl⟩
theorem iX2_wordNumber_0 : Ins mX2_wordNumber 0 1 1 (.iconst 0) := ⟨by decide +kernel, rfl⟩
theorem iX2_wordNumber_1 : Ins mX2_wordNumber 1 2 1 (.istore_n 3) := ⟨by decide +kernel, rfl⟩
theorem iX2_wordNumber_2 : Ins mX2_wordNumber 2 3 1 (.iconst 0) := ⟨by decide +kernel, rfl⟩
theorem iX2_wordNumber_3 : Ins mX2_wordNumber 3 5 2 (.istore 4) := ⟨by decide +kernel, rfl⟩
theorem iX2_wordNumber_5 : Ins mX2_wordNumber 5 6 1 (.iconst 0) := ⟨by decide +kernel, rfl⟩
theorem iX2_wordNumber_6 : Ins mX2_wordNumber 6 8 2 (.istore 5) := ⟨by decide +kernel, rfl⟩
theorem iX2_wordNumber_8 : Ins mX2_wordNumber 8 10 2 (.iload 5) := ⟨by decide +kernel, rfl⟩
theorem iX2_wordNumber_10 : Ins mX2_wordNumber 10 12 2 (.ldc 58) := ⟨by decide +kernel, rfl⟩
theorem iX2_wordNumber_12 : Ins mX2_wordNumber 12 15 3 (.invokevirtual 60) := ⟨by decide +kernel, rfl⟩
theorem iX2_wordNumber_15 : InB mX2_wordNumber 15 18 69 (.if_icmp .ge) := ⟨by decide +kernel, rfl⟩
theorem iX2_wordNumber_18 : Ins mX2_wordNumber 18 20 2 (.ldc 58) := ⟨by decide +kernel, rfl⟩
theorem iX2_wordNumber_20 : Ins mX2_wordNumber 20 22 2 (.iload 5) := ⟨by decide +kernel, rfl⟩
theorem iX2_wordNumber_22 : Ins mX2_wordNumber 22 25 3 (.invokevirtual 66) := ⟨by decide +kernel, rfl⟩
theorem iX2_wordNumber_25 : Ins mX2_wordNumber 25 27 2 (.bipush 32) := ⟨by decide +kernel, rfl⟩
theorem iX2_wordNumber_27 : InB mX2_wordNumber 27 30 63 (.if_icmp .ne) := ⟨by decide +kernel, rfl⟩
theorem iX2_wordNumber_30 : Ins mX2_wordNumber 30 32 2 (.iload 5) := ⟨by decide +kernel, rfl⟩
theorem iX2_wordNumber_32 : Ins mX2_wordNumber 32 34 2 (.iload 4) := ⟨by decide +kernel, rfl⟩
theorem iX2_wordNumber_34 : Ins mX2_wordNumber 34 35 1 (.isub) := ⟨by decide +kernel, rfl⟩
theorem iX2_wordNumber_35 : Ins mX2_wordNumber 35 36 1 (.iload_n 2) := ⟨by decide +kernel, rfl⟩
theorem iX2_wordNumber_36 : Ins mX2_wordNumber 36 37 1 (.iload_n 1) := ⟨by decide +kernel, rfl⟩
theorem iX2_wordNumber_37 : Ins mX2_wordNumber 37 38 1 (.isub) := ⟨by decide +kernel, rfl⟩
theorem iX2_wordNumber_38 : InB mX2_wordNumber 38 41 54 (.if_icmp .ne) := ⟨by decide +kernel, rfl⟩
theorem iX2_wordNumber_41 : Ins mX2_wordNumber 41 42 1 (.aload_n 0) := ⟨by decide +kernel, rfl⟩
theorem iX2_wordNumber_42 : Ins mX2_wordNumber 42 43 1 (.iload_n 1) := ⟨by decide +kernel, rfl⟩
theorem iX2_wordNumber_43 : Ins mX2_wordNumber 43 44 1 (.iload_n 2) := ⟨by decide +kernel, rfl⟩
theorem iX2_wordNumber_44 : Ins mX2_wordNumber 44 46 2 (.iload 4) := ⟨by decide +kernel, rfl⟩
theorem iX2_wordNumber_46 : Ins mX2_wordNumber 46 49 3 (.invokevirtual 70) := ⟨by decide +kernel, rfl⟩
theorem iX2_wordNumber_49 : InB mX2_wordNumber 49 52 54 (.ifCond .eq) := ⟨by decide +kernel, rfl⟩
theorem iX2_wordNumber_52 : Ins mX2_wordNumber 52 53 1 (.iload_n 3) := ⟨by decide +kernel, rfl⟩
theorem iX2_wordNumber_53 : Ins mX2_wordNumber 53 54 1 (.ireturn) := ⟨by decide +kernel, rfl⟩
theorem iX2_wordNumber_54 : Ins mX2_wordNumber 54 57 3 (.iinc 3 1) := ⟨by decide +kernel, rfl⟩
theorem iX2_wordNumber_57 : Ins mX2_wordNumber 57 59 2 (.iload 5) := ⟨by decide +kernel, rfl⟩
theorem iX2_wordNumber_59 : Ins mX2_wordNumber 59 60 1 (.iconst 1) := ⟨by decide +kernel, rfl⟩
theorem iX2_wordNumber_60 : Ins mX2_wordNumber 60 61 1 (.iadd) := ⟨by decide +kernel, rfl⟩
theorem iX2_wordNumber_61 : Ins mX2_wordNumber 61 63 2 (.istore 4) := ⟨by decide +kernel, rfl⟩
theorem iX2_wordNumber_63 : Ins mX2_wordNumber 63 66 3 (.iinc 5 1) := ⟨by decide +kernel, rfl⟩
theorem iX2_wordNumber_66 : InB mX2_wordNumber 66 69 8 .goto := ⟨by decide +kernel, rfl⟩
theorem iX2_wordNumber_69 : Ins mX2_wordNumber 69 70 1 (.iconst (-1)) := ⟨by decide +kernel, rfl⟩
theorem iX2_wordNumber_70 : Ins mX2_wordNumber 70 71 1 (.ireturn) := ⟨by decide +kernel, rfl⟩
theorem iX2_isAlike_0 : Ins mX2_isAlike 0 1 1 (.iload_n 1) := ⟨by decide +kernel, rfl⟩
theorem iX2_isAlike_1 : Ins mX2_isAlike 1 3 2 (.istore 4) := ⟨by decide +kernel, rfl⟩
theorem iX2_isAlike_3 : Ins mX2_isAlike 3 5 2 (.iload 4) := ⟨by decide +kernel, rfl⟩
theorem iX2_isAlike_5 : Ins mX2_isAlike 5 6 1 (.iload_n 2) := ⟨by decide +kernel, rfl⟩
theorem iX2_isAlike_6 : InB mX2_isAlike 6 9 38 (.if_icmp .ge) := ⟨by decide +kernel, rfl⟩
theorem iX2_isAlike_9 : Ins mX2_isAlike 9 10 1 (.aload_n 0) := ⟨by decide +kernel, rfl⟩
theorem iX2_isAlike_10 : Ins mX2_isAlike 10 13 3 (.getfield 9) := ⟨by decide +kernel, rfl⟩
theorem iX2_isAlike_13 : Ins mX2_isAlike 13 15 2 (.iload 4) := ⟨by decide +kernel, rfl⟩
theorem iX2_isAlike_15 : Ins mX2_isAlike 15 16 1 (.iaload) := ⟨by decide +kernel, rfl⟩
theorem iX2_isAlike_16 : Ins mX2_isAlike 16 18 2 (.ldc 58) := ⟨by decide +kernel, rfl⟩
theorem iX2_isAlike_18 : Ins mX2_isAlike 18 19 1 (.iload_n 3) := ⟨by decide +kernel, rfl⟩
theorem iX2_isAlike_19 : Ins mX2_isAlike 19 21 2 (.iload 4) := ⟨by decide +kernel, rfl⟩
theorem iX2_isAlike_21 : Ins mX2_isAlike 21 22 1 (.iadd) := ⟨by decide +kernel, rfl⟩
theorem iX2_isAlike_22 : Ins mX2_isAlike 22 23 1 (.iload_n 1) := ⟨by decide +kernel, rfl⟩
theorem iX2_isAlike_23 : Ins mX2_isAlike 23 24 1 (.isub) := ⟨by decide +kernel, rfl⟩
theorem iX2_isAlike_24 : Ins mX2_isAlike 24 27 3 (.invokevirtual 66) := ⟨by decide +kernel, rfl⟩
theorem iX2_isAlike_27 : InB mX2_isAlike 27 30 32 (.if_icmp .eq) := ⟨by decide +kernel, rfl⟩
theorem iX2_isAlike_30 : Ins mX2_isAlike 30 31 1 (.iconst 0) := ⟨by decide +kernel, rfl⟩
theorem iX2_isAlike_31 : Ins mX2_isAlike 31 32 1 (.ireturn) := ⟨by decide +kernel, rfl⟩
theorem iX2_isAlike_32 : Ins mX2_isAlike 32 35 3 (.iinc 4 1) := ⟨by decide +kernel, rfl⟩
theorem iX2_isAlike_35 : InB mX2_isAlike 35 38 3 .goto := ⟨by decide +kernel, rfl⟩
theorem iX2_isAlike_38 : Ins mX2_isAlike 38 39 1 (.iconst 1) := ⟨by decide +kernel, rfl⟩
theorem iX2_isAlike_39 : Ins mX2_isAlike 39 40 1 (.ireturn) := ⟨by decide +kernel, rfl⟩
theorem iX2_isLetter_0 : Ins mX2_isLetter 0 1 1 (.iload_n 0) := ⟨by decide +kernel, rfl⟩
theorem iX2_isLetter_1 : Ins mX2_isLetter 1 3 2 (.bipush 97) := ⟨by decide +kernel, rfl⟩
theorem iX2_isLetter_3 : InB mX2_isLetter 3 6 16 (.if_icmp .lt) := ⟨by decide +kernel, rfl⟩
theorem iX2_isLetter_6 : Ins mX2_isLetter 6 7 1 (.iload_n 0) := ⟨by decide +kernel, rfl⟩
theorem iX2_isLetter_7 : Ins mX2_isLetter 7 9 2 (.bipush 122) := ⟨by decide +kernel, rfl⟩
theorem iX2_isLetter_9 : InB mX2_isLetter 9 12 16 (.if_icmp .gt) := ⟨by decide +kernel, rfl⟩
theorem iX2_isLetter_12 : Ins mX2_isLetter 12 13 1 (.iconst 1) := ⟨by decide +kernel, rfl⟩
theorem iX2_isLetter_13 : InB mX2_isLetter 13 16 17 .goto := ⟨by decide +kernel, rfl⟩
theorem iX2_isLetter_16 : Ins mX2_isLetter 16 17 1 (.iconst 0) := ⟨by decide +kernel, rfl⟩
theorem iX2_isLetter_17 : Ins mX2_isLetter 17 18 1 (.ireturn) := ⟨by decide +kernel, rfl⟩
theorem iX2_isDigit_0 : Ins mX2_isDigit 0 1 1 (.iload_n 0) := ⟨by decide +kernel, rfl⟩
theorem iX2_isDigit_1 : Ins mX2_isDigit 1 3 2 (.bipush 48) := ⟨by decide +kernel, rfl⟩
theorem iX2_isDigit_3 : InB mX2_isDigit 3 6 16 (.if_icmp .lt) := ⟨by decide +kernel, rfl⟩
theorem iX2_isDigit_6 : Ins mX2_isDigit 6 7 1 (.iload_n 0) := ⟨by decide +kernel, rfl⟩
theorem iX2_isDigit_7 : Ins mX2_isDigit 7 9 2 (.bipush 57) := ⟨by decide +kernel, rfl⟩
theorem iX2_isDigit_9 : InB mX2_isDigit 9 12 16 (.if_icmp .gt) := ⟨by decide +kernel, rfl⟩
theorem iX2_isDigit_12 : Ins mX2_isDigit 12 13 1 (.iconst 1) := ⟨by decide +kernel, rfl⟩
theorem iX2_isDigit_13 : InB mX2_isDigit 13 16 17 .goto := ⟨by decide +kernel, rfl⟩
theorem iX2_isDigit_16 : Ins mX2_isDigit 16 17 1 (.iconst 0) := ⟨by decide +kernel, rfl⟩
theorem iX2_isDigit_17 : Ins mX2_isDigit 17 18 1 (.ireturn) := ⟨by decide +kernel, rfl⟩
theorem iJ6_bitCount_0f7a4_0 : Ins mJ6_bitCount_0f7a4 0 1 1 (.iload_n 0) := ⟨by decide +kernel, rfl⟩
theorem iJ6_bitCount_0f7a4_1 : Ins mJ6_bitCount_0f7a4 1 2 1 (.iload_n 0) := ⟨by decide +kernel, rfl⟩
theorem iJ6_bitCount_0f7a4_2 : Ins mJ6_bitCount_0f7a4 2 3 1 (.iconst 1) := ⟨by decide +kernel, rfl⟩
theorem iJ6_bitCount_0f7a4_3 : Ins mJ6_bitCount_0f7a4 3 4 1 (.iushr) := ⟨by decide +kernel, rfl⟩
theorem iJ6_bitCount_0f7a4_4 : Ins mJ6_bitCount_0f7a4 4 7 3 (.ldc_w 265) := ⟨by decide +kernel, rfl⟩
theorem iJ6_bitCount_0f7a4_7 : Ins mJ6_bitCount_0f7a4 7 8 1 (.iand) := ⟨by decide +kernel, rfl⟩
theorem iJ6_bitCount_0f7a4_8 : Ins mJ6_bitCount_0f7a4 8 9 1 (.isub) := ⟨by decide +kernel, rfl⟩
theorem iJ6_bitCount_0f7a4_9 : Ins mJ6_bitCount_0f7a4 9 10 1 (.istore_n 0) := ⟨by decide +kernel, rfl⟩
theorem iJ6_bitCount_0f7a4_10 : Ins mJ6_bitCount_0f7a4 10 11 1 (.iload_n 0) := ⟨by decide +kernel, rfl⟩
theorem iJ6_bitCount_0f7a4_11 : Ins mJ6_bitCount_0f7a4 11 14 3 (.ldc_w 266) := ⟨by decide +kernel, rfl⟩
theorem iJ6_bitCount_0f7a4_14 : Ins mJ6_bitCount_0f7a4 14 15 1 (.iand) := ⟨by decide +kernel, rfl⟩
theorem iJ6_bitCount_0f7a4_15 : Ins mJ6_bitCount_0f7a4 15 16 1 (.iload_n 0) := ⟨by decide +kernel, rfl⟩
theorem iJ6_bitCount_0f7a4_16 : Ins mJ6_bitCount_0f7a4 16 17 1 (.iconst 2) := ⟨by decide +kernel, rfl⟩
theorem iJ6_bitCount_0f7a4_17 : Ins mJ6_bitCount_0f7a4 17 18 1 (.iushr) := ⟨by decide +kernel, rfl⟩
theorem iJ6_bitCount_0f7a4_18 : Ins mJ6_bitCount_0f7a4 18 21 3 (.ldc_w 266) := ⟨by decide +kernel, rfl⟩
theorem iJ6_bitCount_0f7a4_21 : Ins mJ6_bitCount_0f7a4 21 22 1 (.iand) := ⟨by decide +kernel, rfl⟩
theorem iJ6_bitCount_0f7a4_22 : Ins mJ6_bitCount_0f7a4 22 23 1 (.iadd) := ⟨by decide +kernel, rfl⟩
theorem iJ6_bitCount_0f7a4_23 : Ins mJ6_bitCount_0f7a4 23 24 1 (.istore_n 0) := ⟨by decide +kernel, rfl⟩
theorem iJ6_bitCount_0f7a4_24 : Ins mJ6_bitCount_0f7a4 24 25 1 (.iload_n 0) := ⟨by decide +kernel, rfl⟩
theorem iJ6_bitCount_0f7a4_25 : Ins mJ6_bitCount_0f7a4 25 26 1 (.iload_n 0) := ⟨by decide +kernel, rfl⟩
theorem iJ6_bitCount_0f7a4_26 : Ins mJ6_bitCount_0f7a4 26 27 1 (.iconst 4) := ⟨by decide +kernel, rfl⟩
theorem iJ6_bitCount_0f7a4_27 : Ins mJ6_bitCount_0f7a4 27 28 1 (.iushr) := ⟨by decide +kernel, rfl⟩
theorem iJ6_bitCount_0f7a4_28 : Ins mJ6_bitCount_0f7a4 28 29 1 (.iadd) := ⟨by decide +kernel, rfl⟩
theorem iJ6_bitCount_0f7a4_29 : Ins mJ6_bitCount_0f7a4 29 32 3 (.ldc_w 267) := ⟨by decide +kernel, rfl⟩
theorem iJ6_bitCount_0f7a4_32 : Ins mJ6_bitCount_0f7a4 32 33 1 (.iand) := ⟨by decide +kernel, rfl⟩
theorem iJ6_bitCount_0f7a4_33 : Ins mJ6_bitCount_0f7a4 33 34 1 (.istore_n 0) := ⟨by decide +kernel, rfl⟩
theorem iJ6_bitCount_0f7a4_34 : Ins mJ6_bitCount_0f7a4 34 35 1 (.iload_n 0) := ⟨by decide +kernel, rfl⟩
theorem iJ6_bitCount_0f7a4_35 : Ins mJ6_bitCount_0f7a4 35 36 1 (.iload_n 0) := ⟨by decide +kernel, rfl⟩
theorem iJ6_bitCount_0f7a4_36 : Ins mJ6_bitCount_0f7a4 36 38 2 (.bipush 8) := ⟨by decide +kernel, rfl⟩
theorem iJ6_bitCount_0f7a4_38 : Ins mJ6_bitCount_0f7a4 38 39 1 (.iushr) := ⟨by decide +kernel, rfl⟩
theorem iJ6_bitCount_0f7a4_39 : Ins mJ6_bitCount_0f7a4 39 40 1 (.iadd) := ⟨by decide +kernel, rfl⟩
theorem iJ6_bitCount_0f7a4_40 : Ins mJ6_bitCount_0f7a4 40 41 1 (.istore_n 0) := ⟨by decide +kernel, rfl⟩
theorem iJ6_bitCount_0f7a4_41 : Ins mJ6_bitCount_0f7a4 41 42 1 (.iload_n 0) := ⟨by decide +kernel, rfl⟩
theorem iJ6_bitCount_0f7a4_42 : Ins mJ6_bitCount_0f7a4 42 43 1 (.iload_n 0) := ⟨by decide +kernel, rfl⟩
theorem iJ6_bitCount_0f7a4_43 : Ins mJ6_bitCount_0f7a4 43 45 2 (.bipush 16) := ⟨by decide +kernel, rfl⟩
theorem iJ6_bitCount_0f7a4_45 : Ins mJ6_bitCount_0f7a4 45 46 1 (.iushr) := ⟨by decide +kernel, rfl⟩
theorem iJ6_bitCount_0f7a4_46 : Ins mJ6_bitCount_0f7a4 46 47 1 (.iadd) := ⟨by decide +kernel, rfl⟩
theorem iJ6_bitCount_0f7a4_47 : Ins mJ6_bitCount_0f7a4 47 48 1 (.istore_n 0) := ⟨by decide +kernel, rfl⟩
theorem iJ6_bitCount_0f7a4_48 : Ins mJ6_bitCount_0f7a4 48 49 1 (.iload_n 0) := ⟨by decide +kernel, rfl⟩
theorem iJ6_bitCount_0f7a4_49 : Ins mJ6_bitCount_0f7a4 49 51 2 (.bipush 63) := ⟨by decide +kernel, rfl⟩
theorem iJ6_bitCount_0f7a4_51 : Ins mJ6_bitCount_0f7a4 51 52 1 (.iand) := ⟨by decide +kernel, rfl⟩
theorem iJ6_bitCount_0f7a4_52 : Ins mJ6_bitCount_0f7a4 52 53 1 (.ireturn) := ⟨by decide +kernel, rfl⟩
theorem iJ9_min_7cf53_0 : Ins mJ9_min_7cf53 0 1 1 (.iload_n 0) := ⟨by decide +kernel, rfl⟩
theorem iJ9_min_7cf53_1 : Ins mJ9_min_7cf53 1 2 1 (.iload_n 1) := ⟨by decide +kernel, rfl⟩
theorem iJ9_min_7cf53_2 : InB mJ9_min_7cf53 2 5 9 (.if_icmp .gt) := ⟨by decide +kernel, rfl⟩
theorem iJ9_min_7cf53_5 : Ins mJ9_min_7cf53 5 6 1 (.iload_n 0) := ⟨by decide +kernel, rfl⟩
theorem iJ9_min_7cf53_6 : InB mJ9_min_7cf53 6 9 10 .goto := ⟨by decide +kernel, rfl⟩
theorem iJ9_min_7cf53_9 : Ins mJ9_min_7cf53 9 10 1 (.iload_n 1) := ⟨by decide +kernel, rfl⟩
theorem iJ9_min_7cf53_10 : Ins mJ9_min_7cf53 10 11 1 (.ireturn) := ⟨by decide +kernel, rfl⟩
theorem iJ0_length_8abf5_0 : Ins mJ0_length_8abf5 0 1 1 (.aload_n 0) := ⟨by decide +kernel, rfl⟩
theorem iJ0_length_8abf5_1 : Ins mJ0_length_8abf5 1 4 3 (.getfield 9) := ⟨by decide +kernel, rfl⟩
theorem iJ0_length_8abf5_4 : Ins mJ0_length_8abf5 4 5 1 (.arraylength) := ⟨by decide +kernel, rfl⟩
theorem iJ0_length_8abf5_5 : Ins mJ0_length_8abf5 5 6 1 (.aload_n 0) := ⟨by decide +kernel, rfl⟩
theorem iJ0_length_8abf5_6 : Ins mJ0_length_8abf5 6 9 3 (.invokevirtual 335) := ⟨by decide +kernel, rfl⟩
theorem iJ0_length_8abf5_9 : Ins mJ0_length_8abf5 9 10 1 (.ishr) := ⟨by decide +kernel, rfl⟩
theorem iJ0_length_8abf5_10 : Ins mJ0_length_8abf5 10 11 1 (.ireturn) := ⟨by decide +kernel, rfl⟩
theorem iJ0_charAt_5068e_0 : Ins mJ0_charAt_5068e 0 1 1 (.aload_n 0) := ⟨by decide +kernel, rfl⟩
theorem iJ0_charAt_5068e_1 : Ins mJ0_charAt_5068e 1 4 3 (.invokevirtual 492) := ⟨by decide +kernel, rfl⟩
theorem iJ0_charAt_5068e_4 : InB mJ0_charAt_5068e 4 7 16 (.ifCond .eq) := ⟨by decide +kernel, rfl⟩
theorem iJ0_charAt_5068e_7 : Ins mJ0_charAt_5068e 7 8 1 (.aload_n 0) := ⟨by decide +kernel, rfl⟩
theorem iJ0_charAt_5068e_8 : Ins mJ0_charAt_5068e 8 11 3 (.getfield 9) := ⟨by decide +kernel, rfl⟩
theorem iJ0_charAt_5068e_11 : Ins mJ0_charAt_5068e 11 12 1 (.iload_n 1) := ⟨by decide +kernel, rfl⟩
theorem iJ0_charAt_5068e_12 : Ins mJ0_charAt_5068e 12 15 3 (.invokestatic 495) := ⟨by decide +kernel, rfl⟩
theorem iJ0_charAt_5068e_15 : Ins mJ0_charAt_5068e 15 16 1 (.ireturn) := ⟨by decide +kernel, rfl⟩
theorem iJ0_charAt_5068e_16 : Ins mJ0_charAt_5068e 16 17 1 (.aload_n 0) := ⟨by decide +kernel, rfl⟩
theorem iJ0_charAt_5068e_17 : Ins mJ0_charAt_5068e 17 20 3 (.getfield 9) := ⟨by decide +kernel, rfl⟩
theorem iJ0_charAt_5068e_20 : Ins mJ0_charAt_5068e 20 21 1 (.iload_n 1) := ⟨by decide +kernel, rfl⟩
theorem iJ0_charAt_5068e_21 : Ins mJ0_charAt_5068e 21 24 3 (.invokestatic 498) := ⟨by decide +kernel, rfl⟩
theorem iJ0_charAt_5068e_24 : Ins mJ0_charAt_5068e 24 25 1 (.ireturn) := ⟨by decide +kernel, rfl⟩
theorem iJ0_coder_7d493_0 : Ins mJ0_coder_7d493 0 3 3 (.getstatic 38) := ⟨by decide +kernel, rfl⟩
theorem iJ0_coder_7d493_3 : InB mJ0_coder_7d493 3 6 13 (.ifCond .eq) := ⟨by decide +kernel, rfl⟩
theorem iJ0_coder_7d493_6 : Ins mJ0_coder_7d493 6 7 1 (.aload_n 0) := ⟨by decide +kernel, rfl⟩
theorem iJ0_coder_7d493_7 : Ins mJ0_coder_7d493 7 10 3 (.getfield 15) := ⟨by decide +kernel, rfl⟩
theorem iJ0_coder_7d493_10 : InB mJ0_coder_7d493 10 13 14 .goto := ⟨by decide +kernel, rfl⟩
theorem iJ0_coder_7d493_13 : Ins mJ0_coder_7d493 13 14 1 (.iconst 1) := ⟨by decide +kernel, rfl⟩
theorem iJ0_coder_7d493_14 : Ins mJ0_coder_7d493 14 15 1 (.ireturn) := ⟨by decide +kernel, rfl⟩
theorem iJ0_isLatin1_aae02_0 : Ins mJ0_isLatin1_aae02 0 3 3 (.getstatic 38) := ⟨by decide +kernel, rfl⟩
theorem iJ0_isLatin1_aae02_3 : InB mJ0_isLatin1_aae02 3 6 17 (.ifCond .eq) := ⟨by decide +kernel, rfl⟩
theorem iJ0_isLatin1_aae02_6 : Ins mJ0_isLatin1_aae02 6 7 1 (.aload_n 0) := ⟨by decide +kernel, rfl⟩
theorem iJ0_isLatin1_aae02_7 : Ins mJ0_isLatin1_aae02 7 10 3 (.getfield 15) := ⟨by decide +kernel, rfl⟩
theorem iJ0_isLatin1_aae02_10 : InB mJ0_isLatin1_aae02 10 13 17 (.ifCond .ne) := ⟨by decide +kernel, rfl⟩
theorem iJ0_isLatin1_aae02_13 : Ins mJ0_isLatin1_aae02 13 14 1 (.iconst 1) := ⟨by decide +kernel, rfl⟩
theorem iJ0_isLatin1_aae02_14 : InB mJ0_isLatin1_aae02 14 17 18 .goto := ⟨by decide +kernel, rfl⟩
theorem iJ0_isLatin1_aae02_17 : Ins mJ0_isLatin1_aae02 17 18 1 (.iconst 0) := ⟨by decide +kernel, rfl⟩
theorem iJ0_isLatin1_aae02_18 : Ins mJ0_isLatin1_aae02 18 19 1 (.ireturn) := ⟨by decide +kernel, rfl⟩
theorem iJ0_checkIndex_df160_0 : Ins mJ0_checkIndex_df160 0 1 1 (.iload_n 0) := ⟨by decide +kernel, rfl⟩
theorem iJ0_checkIndex_df160_1 : Ins mJ0_checkIndex_df160 1 2 1 (.iload_n 1) := ⟨by decide +kernel, rfl⟩
theorem iJ0_checkIndex_df160_2 : Ins mJ0_checkIndex_df160 2 5 3 (.getstatic 1053) := ⟨by decide +kernel, rfl⟩
theorem iJ0_checkIndex_df160_5 : Ins mJ0_checkIndex_df160 5 8 3 (.invokestatic 1059) := ⟨by decide +kernel, rfl⟩
theorem iJ0_checkIndex_df160_8 : Ins mJ0_checkIndex_df160 8 9 1 (.pop) := ⟨by decide +kernel, rfl⟩
theorem iJ0_checkIndex_df160_9 : Ins mJ0_checkIndex_df160 9 10 1 (.return_) := ⟨by decide +kernel, rfl⟩
theorem iJ1_charAt_3b067_0 : Ins mJ1_charAt_3b067 0 1 1 (.iload_n 1) := ⟨by decide +kernel, rfl⟩
theorem iJ1_charAt_3b067_1 : Ins mJ1_charAt_3b067 1 2 1 (.aload_n 0) := ⟨by decide +kernel, rfl⟩
theorem iJ1_charAt_3b067_2 : Ins mJ1_charAt_3b067 2 3 1 (.arraylength) := ⟨by decide +kernel, rfl⟩
theorem iJ1_charAt_3b067_3 : Ins mJ1_charAt_3b067 3 6 3 (.invokestatic 9) := ⟨by decide +kernel, rfl⟩
theorem iJ1_charAt_3b067_6 : Ins mJ1_charAt_3b067 6 7 1 (.aload_n 0) := ⟨by decide +kernel, rfl⟩
theorem iJ1_charAt_3b067_7 : Ins mJ1_charAt_3b067 7 8 1 (.iload_n 1) := ⟨by decide +kernel, rfl⟩
theorem iJ1_charAt_3b067_8 : Ins mJ1_charAt_3b067 8 9 1 (.baload) := ⟨by decide +kernel, rfl⟩
theorem iJ1_charAt_3b067_9 : Ins mJ1_charAt_3b067 9 12 3 (.sipush 255) := ⟨by decide +kernel, rfl⟩
theorem iJ1_charAt_3b067_12 : Ins mJ1_charAt_3b067 12 13 1 (.iand) := ⟨by decide +kernel, rfl⟩
theorem iJ1_charAt_3b067_13 : Ins mJ1_charAt_3b067 13 14 1 (.i2c) := ⟨by decide +kernel, rfl⟩
theorem iJ1_charAt_3b067_14 : Ins mJ1_charAt_3b067 14 15 1 (.ireturn) := ⟨by decide +kernel, rfl⟩
theorem iJ7_fill_53178_0 : Ins mJ7_fill_53178 0 1 1 (.iconst 0) := ⟨by decide +kernel, rfl⟩
theorem iJ7_fill_53178_1 : Ins mJ7_fill_53178 1 2 1 (.istore_n 2) := ⟨by decide +kernel, rfl⟩
theorem iJ7_fill_53178_2 : Ins mJ7_fill_53178 2 3 1 (.aload_n 0) := ⟨by decide +kernel, rfl⟩
theorem iJ7_fill_53178_3 : Ins mJ7_fill_53178 3 4 1 (.arraylength) := ⟨by decide +kernel, rfl⟩
theorem iJ7_fill_53178_4 : Ins mJ7_fill_53178 4 5 1 (.istore_n 3) := ⟨by decide +kernel, rfl⟩
theorem iJ7_fill_53178_5 : Ins mJ7_fill_53178 5 6 1 (.iload_n 2) := ⟨by decide +kernel, rfl⟩
theorem iJ7_fill_53178_6 : Ins mJ7_fill_53178 6 7 1 (.iload_n 3) := ⟨by decide +kernel, rfl⟩
theorem iJ7_fill_53178_7 : InB mJ7_fill_53178 7 10 20 (.if_icmp .ge) := ⟨by decide +kernel, rfl⟩
theorem iJ7_fill_53178_10 : Ins mJ7_fill_53178 10 11 1 (.aload_n 0) := ⟨by decide +kernel, rfl⟩
theorem iJ7_fill_53178_11 : Ins mJ7_fill_53178 11 12 1 (.iload_n 2) := ⟨by decide +kernel, rfl⟩
theorem iJ7_fill_53178_12 : Ins mJ7_fill_53178 12 13 1 (.iload_n 1) := ⟨by decide +kernel, rfl⟩
theorem iJ7_fill_53178_13 : Ins mJ7_fill_53178 13 14 1 (.iastore) := ⟨by decide +kernel, rfl⟩
theorem iJ7_fill_53178_14 : Ins mJ7_fill_53178 14 17 3 (.iinc 2 1) := ⟨by decide +kernel, rfl⟩
theorem iJ7_fill_53178_17 : InB mJ7_fill_53178 17 20 5 .goto := ⟨by decide +kernel, rfl⟩
theorem iJ7_fill_53178_20 : Ins mJ7_fill_53178 20 21 1 (.return_) := ⟨by decide +kernel, rfl⟩
theorem iJ3_checkIndex_8e157_0 : Ins mJ3_checkIndex_8e157 0 1 1 (.iload_n 0) := ⟨by decide +kernel, rfl⟩
theorem iJ3_checkIndex_8e157_1 : InB mJ3_checkIndex_8e157 1 4 9 (.ifCond .lt) := ⟨by decide +kernel, rfl⟩
theorem iJ3_checkIndex_8e157_4 : Ins mJ3_checkIndex_8e157 4 5 1 (.iload_n 0) := ⟨by decide +kernel, rfl⟩
theorem iJ3_checkIndex_8e157_5 : Ins mJ3_checkIndex_8e157 5 6 1 (.iload_n 1) := ⟨by decide +kernel, rfl⟩
theorem iJ3_checkIndex_8e157_6 : InB mJ3_checkIndex_8e157 6 9 16 (.if_icmp .lt) := ⟨by decide +kernel, rfl⟩
theorem iJ3_checkIndex_8e157_9 : Ins mJ3_checkIndex_8e157 9 10 1 (.aload_n 2) := ⟨by decide +kernel, rfl⟩
theorem iJ3_checkIndex_8e157_10 : Ins mJ3_checkIndex_8e157 10 11 1 (.iload_n 0) := ⟨by decide +kernel, rfl⟩
theorem iJ3_checkIndex_8e157_11 : Ins mJ3_checkIndex_8e157 11 12 1 (.iload_n 1) := ⟨by decide +kernel, rfl⟩
theorem iJ3_checkIndex_8e157_12 : Ins mJ3_checkIndex_8e157 12 15 3 (.invokestatic 95) := ⟨by decide +kernel, rfl⟩
theorem iJ3_checkIndex_8e157_16 : Ins mJ3_checkIndex_8e157 16 17 1 (.iload_n 0) := ⟨by decide +kernel, rfl⟩
theorem iJ3_checkIndex_8e157_17 : Ins mJ3_checkIndex_8e157 17 18 1 (.ireturn) := ⟨by decide +kernel, rfl⟩
end
section
theorem iX3_become_0 : Ins mX3_become 0 1 1 (.aload_n 1) := ⟨by decide +kernel, rfl⟩
theorem iX3_become_1 : Ins mX3_become 1 4 3 (.getfield 9) := ⟨by decide +kernel, rfl⟩
theorem iX3_become_4 : Ins mX3_become 4 5 1 (.iconst 0) := ⟨by decide +kernel, rfl⟩
theorem iX3_become_5 : Ins mX3_become 5 6 1 (.aload_n 0) := ⟨by decide +kernel, rfl⟩
theorem iX3_become_6 : Ins mX3_become 6 9 3 (.getfield 9) := ⟨by decide +kernel, rfl⟩
theorem iX3_become_9 : Ins mX3_become 9 10 1 (.iconst 0) := ⟨by decide +kernel, rfl⟩
theorem iX3_become_10 : Ins mX3_become 10 12 2 (.bipush 6) := ⟨by decide +kernel, rfl⟩
theorem iX3_become_12 : Ins mX3_become 12 15 3 (.invokestatic 64) := ⟨by decide +kernel, rfl⟩
theorem iX3_become_15 : Ins mX3_become 15 16 1 (.aload_n 1) := ⟨by decide +kernel, rfl⟩
theorem iX3_become_16 : Ins mX3_become 16 19 3 (.getfield 21) := ⟨by decide +kernel, rfl⟩
theorem iX3_become_19 : Ins mX3_become 19 20 1 (.iconst 0) := ⟨by decide +kernel, rfl⟩
theorem iX3_become_20 : Ins mX3_become 20 21 1 (.aload_n 0) := ⟨by decide +kernel, rfl⟩
theorem iX3_become_21 : Ins mX3_become 21 24 3 (.getfield 21) := ⟨by decide +kernel, rfl⟩
theorem iX3_become_24 : Ins mX3_become 24 25 1 (.iconst 0) := ⟨by decide +kernel, rfl⟩
theorem iX3_become_25 : Ins mX3_become 25 27 2 (.bipush 8) := ⟨by decide +kernel, rfl⟩
theorem iX3_become_27 : Ins mX3_become 27 30 3 (.invokestatic 64) := ⟨by decide +kernel, rfl⟩
theorem iX3_become_30 : Ins mX3_become 30 31 1 (.aload_n 1) := ⟨by decide +kernel, rfl⟩
theorem iX3_become_31 : Ins mX3_become 31 34 3 (.getfield 24) := ⟨by decide +kernel, rfl⟩
theorem iX3_become_34 : Ins mX3_become 34 35 1 (.iconst 0) := ⟨by decide +kernel, rfl⟩
theorem iX3_become_35 : Ins mX3_become 35 36 1 (.aload_n 0) := ⟨by decide +kernel, rfl⟩
theorem iX3_become_36 : Ins mX3_become 36 39 3 (.getfield 24) := ⟨by decide +kernel, rfl⟩
theorem iX3_become_39 : Ins mX3_become 39 40 1 (.iconst 0) := ⟨by decide +kernel, rfl⟩
theorem iX3_become_40 : Ins mX3_become 40 42 2 (.bipush 8) := ⟨by decide +kernel, rfl⟩
theorem iX3_become_42 : Ins mX3_become 42 45 3 (.invokestatic 64) := ⟨by decide +kernel, rfl⟩
theorem iX3_become_45 : Ins mX3_become 45 46 1 (.aload_n 1) := ⟨by decide +kernel, rfl⟩
theorem iX3_become_46 : Ins mX3_become 46 49 3 (.getfield 27) := ⟨by decide +kernel, rfl⟩
theorem iX3_become_49 : Ins mX3_become 49 50 1 (.iconst 0) := ⟨by decide +kernel, rfl⟩
theorem iX3_become_50 : Ins mX3_become 50 51 1 (.aload_n 0) := ⟨by decide +kernel, rfl⟩
theorem iX3_become_51 : Ins mX3_become 51 54 3 (.getfield 27) := ⟨by decide +kernel, rfl⟩
theorem iX3_become_54 : Ins mX3_become 54 55 1 (.iconst 0) := ⟨by decide +kernel, rfl⟩
theorem iX3_become_55 : Ins mX3_become 55 57 2 (.bipush 8) := ⟨by decide +kernel, rfl⟩
theorem iX3_become_57 : Ins mX3_become 57 60 3 (.invokestatic 64) := ⟨by decide +kernel, rfl⟩
theorem iX3_become_60 : Ins mX3_become 60 61 1 (.aload_n 1) := ⟨by decide +kernel, rfl⟩
theorem iX3_become_61 : Ins mX3_become 61 64 3 (.getfield 30) := ⟨by decide +kernel, rfl⟩
theorem iX3_become_64 : Ins mX3_become 64 65 1 (.iconst 0) := ⟨by decide +kernel, rfl⟩
theorem iX3_become_65 : Ins mX3_become 65 66 1 (.aload_n 0) := ⟨by decide +kernel, rfl⟩
theorem iX3_become_66 : Ins mX3_become 66 69 3 (.getfield 30) := ⟨by decide +kernel, rfl⟩
theorem iX3_become_69 : Ins mX3_become 69 70 1 (.iconst 0) := ⟨by decide +kernel, rfl⟩
theorem iX3_become_70 : Ins mX3_become 70 72 2 (.bipush 8) := ⟨by decide +kernel, rfl⟩
theorem iX3_become_72 : Ins mX3_become 72 75 3 (.invokestatic 64) := ⟨by decide +kernel, rfl⟩
theorem iX3_become_75 : Ins mX3_become 75 76 1 (.aload_n 1) := ⟨by decide +kernel, rfl⟩
theorem iX3_become_76 : Ins mX3_become 76 79 3 (.getfield 33) := ⟨by decide +kernel, rfl⟩
theorem iX3_become_79 : Ins mX3_become 79 80 1 (.iconst 0) := ⟨by decide +kernel, rfl⟩
theorem iX3_become_80 : Ins mX3_become 80 81 1 (.aload_n 0) := ⟨by decide +kernel, rfl⟩
theorem iX3_become_81 : Ins mX3_become 81 84 3 (.getfield 33) := ⟨by decide +kernel, rfl⟩
theorem iX3_become_84 : Ins mX3_become 84 85 1 (.iconst 0) := ⟨by decide +kernel, rfl⟩
theorem iX3_become_85 : Ins mX3_become 85 87 2 (.bipush 6) := ⟨by decide +kernel, rfl⟩
theorem iX3_become_87 : Ins mX3_become 87 90 3 (.invokestatic 64) := ⟨by decide +kernel, rfl⟩
theorem iX3_become_90 : Ins mX3_become 90 91 1 (.aload_n 1) := ⟨by decide +kernel, rfl⟩
theorem iX3_become_91 : Ins mX3_become 91 94 3 (.getfield 36) := ⟨by decide +kernel, rfl⟩
theorem iX3_become_94 : Ins mX3_become 94 95 1 (.iconst 0) := ⟨by decide +kernel, rfl⟩
theorem iX3_become_95 : Ins mX3_become 95 96 1 (.aload_n 0) := ⟨by decide +kernel, rfl⟩
theorem iX3_become_96 : Ins mX3_become 96 99 3 (.getfield 36) := ⟨by decide +kernel, rfl⟩
theorem iX3_become_99 : Ins mX3_become 99 100 1 (.iconst 0) := ⟨by decide +kernel, rfl⟩
theorem iX3_become_100 : Ins mX3_become 100 102 2 (.bipush 6) := ⟨by decide +kernel, rfl⟩
theorem iX3_become_102 : Ins mX3_become 102 105 3 (.invokestatic 64) := ⟨by decide +kernel, rfl⟩
theorem iX3_become_105 : Ins mX3_become 105 106 1 (.aload_n 1) := ⟨by decide +kernel, rfl⟩
theorem iX3_become_106 : Ins mX3_become 106 109 3 (.getfield 39) := ⟨by decide +kernel, rfl⟩
theorem iX3_become_109 : Ins mX3_become 109 110 1 (.iconst 0) := ⟨by decide +kernel, rfl⟩
theorem iX3_become_110 : Ins mX3_become 110 111 1 (.aload_n 0) := ⟨by decide +kernel, rfl⟩
theorem iX3_become_111 : Ins mX3_become 111 114 3 (.getfield 39) := ⟨by decide +kernel, rfl⟩
theorem iX3_become_114 : Ins mX3_become 114 115 1 (.iconst 0) := ⟨by decide +kernel, rfl⟩
theorem iX3_become_115 : Ins mX3_become 115 117 2 (.bipush 6) := ⟨by decide +kernel, rfl⟩
theorem iX3_become_117 : Ins mX3_become 117 120 3 (.invokestatic 64) := ⟨by decide +kernel, rfl⟩
theorem iX3_become_120 : Ins mX3_become 120 121 1 (.aload_n 1) := ⟨by decide +kernel, rfl⟩
theorem iX3_become_121 : Ins mX3_become 121 124 3 (.getfield 42) := ⟨by decide +kernel, rfl⟩
theorem iX3_become_124 : Ins mX3_become 124 125 1 (.iconst 0) := ⟨by decide +kernel, rfl⟩
theorem iX3_become_125 : Ins mX3_become 125 126 1 (.aload_n 0) := ⟨by decide +kernel, rfl⟩
theorem iX3_become_126 : Ins mX3_become 126 129 3 (.getfield 42) := ⟨by decide +kernel, rfl⟩
theorem iX3_become_129 : Ins mX3_become 129 130 1 (.iconst 0) := ⟨by decide +kernel, rfl⟩
theorem iX3_become_130 : Ins mX3_become 130 132 2 (.bipush 48) := ⟨by decide +kernel, rfl⟩
theorem iX3_become_132 : Ins mX3_become 132 135 3 (.invokestatic 64) := ⟨by decide +kernel, rfl⟩
theorem iX3_become_135 : Ins mX3_become 135 136 1 (.aload_n 1) := ⟨by decide +kernel, rfl⟩
theorem iX3_become_136 : Ins mX3_become 136 139 3 (.getfield 45) := ⟨by decide +kernel, rfl⟩
theorem iX3_become_139 : Ins mX3_become 139 140 1 (.iconst 0) := ⟨by decide +kernel, rfl⟩
theorem iX3_become_140 : Ins mX3_become 140 141 1 (.aload_n 0) := ⟨by decide +kernel, rfl⟩
theorem iX3_become_141 : Ins mX3_become 141 144 3 (.getfield 45) := ⟨by decide +kernel, rfl⟩
theorem iX3_become_144 : Ins mX3_become 144 145 1 (.iconst 0) := ⟨by decide +kernel, rfl⟩
theorem iX3_become_145 : Ins mX3_become 145 147 2 (.bipush 10) := ⟨by decide +kernel, rfl⟩
theorem iX3_become_147 : Ins mX3_become 147 150 3 (.invokestatic 64) := ⟨by decide +kernel, rfl⟩
theorem iX3_become_150 : Ins mX3_become 150 151 1 (.aload_n 0) := ⟨by decide +kernel, rfl⟩
theorem iX3_become_151 : Ins mX3_become 151 152 1 (.aload_n 1) := ⟨by decide +kernel, rfl⟩
theorem iX3_become_152 : Ins mX3_become 152 155 3 (.getfield 48) := ⟨by decide +kernel, rfl⟩
theorem iX3_become_155 : Ins mX3_become 155 158 3 (.putfield 48) := ⟨by decide +kernel, rfl⟩
theorem iX3_become_158 : Ins mX3_become 158 159 1 (.aload_n 0) := ⟨by decide +kernel, rfl⟩
theorem iX3_become_159 : Ins mX3_become 159 160 1 (.aload_n 1) := ⟨by decide +kernel, rfl⟩
theorem iX3_become_160 : Ins mX3_become 160 163 3 (.getfield 52) := ⟨by decide +kernel, rfl⟩
theorem iX3_become_163 : Ins mX3_become 163 166 3 (.putfield 52) := ⟨by decide +kernel, rfl⟩
theorem iX3_become_166 : Ins mX3_become 166 167 1 (.aload_n 0) := ⟨by decide +kernel, rfl⟩
theorem iX3_become_167 : Ins mX3_become 167 168 1 (.aload_n 1) := ⟨by decide +kernel, rfl⟩
theorem iX3_become_168 : Ins mX3_become 168 171 3 (.getfield 55) := ⟨by decide +kernel, rfl⟩
theorem iX3_become_171 : Ins mX3_become 171 174 3 (.putfield 55) := ⟨by decide +kernel, rfl⟩
theorem iX3_become_174 : Ins mX3_become 174 175 1 (.aload_n 0) := ⟨by decide +kernel, rfl⟩
theorem iX3_become_175 : Ins mX3_become 175 176 1 (.aload_n 1) := ⟨by decide +kernel, rfl⟩
theorem iX3_become_176 : Ins mX3_become 176 179 3 (.getfield 58) := ⟨by decide +kernel, rfl⟩
theorem iX3_become_179 : Ins mX3_become 179 182 3 (.putfield 58) := ⟨by decide +kernel, rfl⟩
theorem iX3_become_182 : Ins mX3_become 182 183 1 (.aload_n 0) := ⟨by decide +kernel, rfl⟩
theorem iX3_become_183 : Ins mX3_become 183 184 1 (.aload_n 1) := ⟨by decide +kernel, rfl⟩
theorem iX3_become_184 : Ins mX3_become 184 187 3 (.getfield 61) := ⟨by decide +kernel, rfl⟩
theorem iX3_become_187 : Ins mX3_become 187 190 3 (.putfield 61) := ⟨by decide +kernel, rfl⟩
theorem iX3_become_190 : Ins mX3_become 190 191 1 (.return_) := ⟨by decide +kernel, rfl⟩
theorem iX3_isPerson_0 : Ins mX3_isPerson 0 1 1 (.iload_n 1) := ⟨by decide +kernel, rfl⟩
theorem iX3_isPerson_1 : InB mX3_isPerson 1 4 16 (.ifCond .lt) := ⟨by decide +kernel, rfl⟩
theorem iX3_isPerson_4 : Ins mX3_isPerson 4 5 1 (.iload_n 1) := ⟨by decide +kernel, rfl⟩
theorem iX3_isPerson_5 : Ins mX3_isPerson 5 6 1 (.aload_n 0) := ⟨by decide +kernel, rfl⟩
theorem iX3_isPerson_6 : Ins mX3_isPerson 6 9 3 (.getfield 48) := ⟨by decide +kernel, rfl⟩
theorem iX3_isPerson_9 : InB mX3_isPerson 9 12 16 (.if_icmp .ge) := ⟨by decide +kernel, rfl⟩
theorem iX3_isPerson_12 : Ins mX3_isPerson 12 13 1 (.iconst 1) := ⟨by decide +kernel, rfl⟩
theorem iX3_isPerson_13 : InB mX3_isPerson 13 16 17 .goto := ⟨by decide +kernel, rfl⟩
theorem iX3_isPerson_16 : Ins mX3_isPerson 16 17 1 (.iconst 0) := ⟨by decide +kernel, rfl⟩
theorem iX3_isPerson_17 : Ins mX3_isPerson 17 18 1 (.ireturn) := ⟨by decide +kernel, rfl⟩
theorem iX3_isSaying_0 : Ins mX3_isSaying 0 1 1 (.iload_n 1) := ⟨by decide +kernel, rfl⟩
theorem iX3_isSaying_1 : InB mX3_isSaying 1 4 16 (.ifCond .lt) := ⟨by decide +kernel, rfl⟩
theorem iX3_isSaying_4 : Ins mX3_isSaying 4 5 1 (.iload_n 1) := ⟨by decide +kernel, rfl⟩
theorem iX3_isSaying_5 : Ins mX3_isSaying 5 6 1 (.aload_n 0) := ⟨by decide +kernel, rfl⟩
theorem iX3_isSaying_6 : Ins mX3_isSaying 6 9 3 (.getfield 52) := ⟨by decide +kernel, rfl⟩
theorem iX3_isSaying_9 : InB mX3_isSaying 9 12 16 (.if_icmp .ge) := ⟨by decide +kernel, rfl⟩
theorem iX3_isSaying_12 : Ins mX3_isSaying 12 13 1 (.iconst 1) := ⟨by decide +kernel, rfl⟩
theorem iX3_isSaying_13 : InB mX3_isSaying 13 16 17 .goto := ⟨by decide +kernel, rfl⟩
theorem iX3_isSaying_16 : Ins mX3_isSaying 16 17 1 (.iconst 0) := ⟨by decide +kernel, rfl⟩
theorem iX3_isSaying_17 : Ins mX3_isSaying 17 18 1 (.ireturn) := ⟨by decide +kernel, rfl⟩
theorem iX3_settle_0 : Ins mX3_settle 0 1 1 (.aload_n 0) := ⟨by decide +kernel, rfl⟩
theorem iX3_settle_1 : Ins mX3_settle 1 4 3 (.getfield 48) := ⟨by decide +kernel, rfl⟩
theorem iX3_settle_4 : Ins mX3_settle 4 6 2 (.istore 4) := ⟨by decide +kernel, rfl⟩
theorem iX3_settle_6 : Ins mX3_settle 6 7 1 (.aload_n 0) := ⟨by decide +kernel, rfl⟩
theorem iX3_settle_7 : Ins mX3_settle 7 10 3 (.getfield 21) := ⟨by decide +kernel, rfl⟩
theorem iX3_settle_10 : Ins mX3_settle 10 12 2 (.iload 4) := ⟨by decide +kernel, rfl⟩
theorem iX3_settle_12 : Ins mX3_settle 12 13 1 (.iload_n 1) := ⟨by decide +kernel, rfl⟩
theorem iX3_settle_13 : Ins mX3_settle 13 14 1 (.iastore) := ⟨by decide +kernel, rfl⟩
theorem iX3_settle_14 : Ins mX3_settle 14 15 1 (.aload_n 0) := ⟨by decide +kernel, rfl⟩
theorem iX3_settle_15 : Ins mX3_settle 15 18 3 (.getfield 24) := ⟨by decide +kernel, rfl⟩
theorem iX3_settle_18 : Ins mX3_settle 18 20 2 (.iload 4) := ⟨by decide +kernel, rfl⟩
theorem iX3_settle_20 : Ins mX3_settle 20 21 1 (.iload_n 2) := ⟨by decide +kernel, rfl⟩
theorem iX3_settle_21 : Ins mX3_settle 21 22 1 (.iastore) := ⟨by decide +kernel, rfl⟩
theorem iX3_settle_22 : Ins mX3_settle 22 23 1 (.aload_n 0) := ⟨by decide +kernel, rfl⟩
theorem iX3_settle_23 : Ins mX3_settle 23 26 3 (.getfield 27) := ⟨by decide +kernel, rfl⟩
theorem iX3_settle_26 : Ins mX3_settle 26 28 2 (.iload 4) := ⟨by decide +kernel, rfl⟩
theorem iX3_settle_28 : Ins mX3_settle 28 29 1 (.iload_n 3) := ⟨by decide +kernel, rfl⟩
theorem iX3_settle_29 : Ins mX3_settle 29 30 1 (.iastore) := ⟨by decide +kernel, rfl⟩
theorem iX3_settle_30 : Ins mX3_settle 30 31 1 (.aload_n 0) := ⟨by decide +kernel, rfl⟩
theorem iX3_settle_31 : Ins mX3_settle 31 34 3 (.getfield 30) := ⟨by decide +kernel, rfl⟩
theorem iX3_settle_34 : Ins mX3_settle 34 36 2 (.iload 4) := ⟨by decide +kernel, rfl⟩
theorem iX3_settle_36 : Ins mX3_settle 36 37 1 (.iconst 0) := ⟨by decide +kernel, rfl⟩
theorem iX3_settle_37 : Ins mX3_settle 37 38 1 (.iastore) := ⟨by decide +kernel, rfl⟩
theorem iX3_settle_38 : Ins mX3_settle 38 39 1 (.aload_n 0) := ⟨by decide +kernel, rfl⟩
theorem iX3_settle_39 : Ins mX3_settle 39 40 1 (.dup) := ⟨by decide +kernel, rfl⟩
theorem iX3_settle_40 : Ins mX3_settle 40 43 3 (.getfield 48) := ⟨by decide +kernel, rfl⟩
theorem iX3_settle_43 : Ins mX3_settle 43 44 1 (.iconst 1) := ⟨by decide +kernel, rfl⟩
theorem iX3_settle_44 : Ins mX3_settle 44 45 1 (.iadd) := ⟨by decide +kernel, rfl⟩
theorem iX3_settle_45 : Ins mX3_settle 45 48 3 (.putfield 48) := ⟨by decide +kernel, rfl⟩
theorem iX3_settle_48 : Ins mX3_settle 48 50 2 (.iload 4) := ⟨by decide +kernel, rfl⟩
theorem iX3_settle_50 : Ins mX3_settle 50 51 1 (.ireturn) := ⟨by decide +kernel, rfl⟩
theorem iX3_putAbout_0 : Ins mX3_putAbout 0 1 1 (.aload_n 0) := ⟨by decide +kernel, rfl⟩
theorem iX3_putAbout_1 : Ins mX3_putAbout 1 4 3 (.getfield 52) := ⟨by decide +kernel, rfl⟩
theorem iX3_putAbout_4 : Ins mX3_putAbout 4 6 2 (.istore 4) := ⟨by decide +kernel, rfl⟩
theorem iX3_putAbout_6 : Ins mX3_putAbout 6 7 1 (.aload_n 0) := ⟨by decide +kernel, rfl⟩
theorem iX3_putAbout_7 : Ins mX3_putAbout 7 10 3 (.getfield 33) := ⟨by decide +kernel, rfl⟩
theorem iX3_putAbout_10 : Ins mX3_putAbout 10 12 2 (.iload 4) := ⟨by decide +kernel, rfl⟩
theorem iX3_putAbout_12 : Ins mX3_putAbout 12 13 1 (.iload_n 2) := ⟨by decide +kernel, rfl⟩
theorem iX3_putAbout_13 : Ins mX3_putAbout 13 14 1 (.iastore) := ⟨by decide +kernel, rfl⟩
theorem iX3_putAbout_14 : Ins mX3_putAbout 14 15 1 (.aload_n 0) := ⟨by decide +kernel, rfl⟩
theorem iX3_putAbout_15 : Ins mX3_putAbout 15 18 3 (.getfield 36) := ⟨by decide +kernel, rfl⟩
theorem iX3_putAbout_18 : Ins mX3_putAbout 18 20 2 (.iload 4) := ⟨by decide +kernel, rfl⟩
theorem iX3_putAbout_20 : Ins mX3_putAbout 20 21 1 (.iload_n 3) := ⟨by decide +kernel, rfl⟩
theorem iX3_putAbout_21 : Ins mX3_putAbout 21 22 1 (.iastore) := ⟨by decide +kernel, rfl⟩
theorem iX3_putAbout_22 : Ins mX3_putAbout 22 23 1 (.aload_n 0) := ⟨by decide +kernel, rfl⟩
theorem iX3_putAbout_23 : Ins mX3_putAbout 23 25 2 (.iload 4) := ⟨by decide +kernel, rfl⟩
theorem iX3_putAbout_25 : Ins mX3_putAbout 25 26 1 (.iload_n 1) := ⟨by decide +kernel, rfl⟩
theorem iX3_putAbout_26 : Ins mX3_putAbout 26 29 3 (.invokevirtual 70) := ⟨by decide +kernel, rfl⟩
theorem iX3_putAbout_29 : Ins mX3_putAbout 29 30 1 (.aload_n 0) := ⟨by decide +kernel, rfl⟩
theorem iX3_putAbout_30 : Ins mX3_putAbout 30 31 1 (.dup) := ⟨by decide +kernel, rfl⟩
theorem iX3_putAbout_31 : Ins mX3_putAbout 31 34 3 (.getfield 52) := ⟨by decide +kernel, rfl⟩
theorem iX3_putAbout_34 : Ins mX3_putAbout 34 35 1 (.iconst 1) := ⟨by decide +kernel, rfl⟩
theorem iX3_putAbout_35 : Ins mX3_putAbout 35 36 1 (.iadd) := ⟨by decide +kernel, rfl⟩
theorem iX3_putAbout_36 : Ins mX3_putAbout 36 39 3 (.putfield 52) := ⟨by decide +kernel, rfl⟩
theorem iX3_putAbout_39 : Ins mX3_putAbout 39 41 2 (.iload 4) := ⟨by decide +kernel, rfl⟩
theorem iX3_putAbout_41 : Ins mX3_putAbout 41 42 1 (.ireturn) := ⟨by decide +kernel, rfl⟩
theorem iX3_begin_0 : Ins mX3_begin 0 1 1 (.aload_n 0) := ⟨by decide +kernel, rfl⟩
theorem iX3_begin_1 : Ins mX3_begin 1 4 3 (.getfield 39) := ⟨by decide +kernel, rfl⟩
theorem iX3_begin_4 : Ins mX3_begin 4 5 1 (.iload_n 1) := ⟨by decide +kernel, rfl⟩
theorem iX3_begin_5 : Ins mX3_begin 5 6 1 (.iconst 1) := ⟨by decide +kernel, rfl⟩
theorem iX3_begin_6 : Ins mX3_begin 6 7 1 (.iload_n 2) := ⟨by decide +kernel, rfl⟩
theorem iX3_begin_7 : Ins mX3_begin 7 8 1 (.ishl) := ⟨by decide +kernel, rfl⟩
theorem iX3_begin_8 : Ins mX3_begin 8 9 1 (.iastore) := ⟨by decide +kernel, rfl⟩
theorem iX3_begin_9 : Ins mX3_begin 9 10 1 (.aload_n 0) := ⟨by decide +kernel, rfl⟩
theorem iX3_begin_10 : Ins mX3_begin 10 13 3 (.getfield 42) := ⟨by decide +kernel, rfl⟩
theorem iX3_begin_13 : Ins mX3_begin 13 15 2 (.bipush 8) := ⟨by decide +kernel, rfl⟩
theorem iX3_begin_15 : Ins mX3_begin 15 16 1 (.iload_n 1) := ⟨by decide +kernel, rfl⟩
theorem iX3_begin_16 : Ins mX3_begin 16 17 1 (.imul) := ⟨by decide +kernel, rfl⟩
theorem iX3_begin_17 : Ins mX3_begin 17 18 1 (.iload_n 2) := ⟨by decide +kernel, rfl⟩
theorem iX3_begin_18 : Ins mX3_begin 18 19 1 (.iadd) := ⟨by decide +kernel, rfl⟩
theorem iX3_begin_19 : Ins mX3_begin 19 20 1 (.iconst (-1)) := ⟨by decide +kernel, rfl⟩
theorem iX3_begin_20 : Ins mX3_begin 20 21 1 (.iastore) := ⟨by decide +kernel, rfl⟩
theorem iX3_begin_21 : Ins mX3_begin 21 22 1 (.return_) := ⟨by decide +kernel, rfl⟩
theorem iX3_hasHeard_0 : Ins mX3_hasHeard 0 1 1 (.aload_n 0) := ⟨by decide +kernel, rfl⟩
theorem iX3_hasHeard_1 : Ins mX3_hasHeard 1 4 3 (.getfield 39) := ⟨by decide +kernel, rfl⟩
theorem iX3_hasHeard_4 : Ins mX3_hasHeard 4 5 1 (.iload_n 1) := ⟨by decide +kernel, rfl⟩
theorem iX3_hasHeard_5 : Ins mX3_hasHeard 5 6 1 (.iaload) := ⟨by decide +kernel, rfl⟩
theorem iX3_hasHeard_6 : Ins mX3_hasHeard 6 7 1 (.iload_n 2) := ⟨by decide +kernel, rfl⟩
theorem iX3_hasHeard_7 : Ins mX3_hasHeard 7 8 1 (.ishr) := ⟨by decide +kernel, rfl⟩
theorem iX3_hasHeard_8 : Ins mX3_hasHeard 8 9 1 (.iconst 1) := ⟨by decide +kernel, rfl⟩
theorem iX3_hasHeard_9 : Ins mX3_hasHeard 9 10 1 (.iand) := ⟨by decide +kernel, rfl⟩
theorem iX3_hasHeard_10 : InB mX3_hasHeard 10 13 17 (.ifCond .eq) := ⟨by decide +kernel, rfl⟩
theorem iX3_hasHeard_13 : Ins mX3_hasHeard 13 14 1 (.iconst 1) := ⟨by decide +kernel, rfl⟩
theorem iX3_hasHeard_14 : InB mX3_hasHeard 14 17 18 .goto := ⟨by decide +kernel, rfl⟩
theorem iX3_hasHeard_17 : Ins mX3_hasHeard 17 18 1 (.iconst 0) := ⟨by decide +kernel, rfl⟩
theorem iX3_hasHeard_18 : Ins mX3_hasHeard 18 19 1 (.ireturn) := ⟨by decide +kernel, rfl⟩
theorem iX3_source_0 : Ins mX3_source 0 1 1 (.aload_n 0) := ⟨by decide +kernel, rfl⟩
theorem iX3_source_1 : Ins mX3_source 1 4 3 (.getfield 42) := ⟨by decide +kernel, rfl⟩
theorem iX3_source_4 : Ins mX3_source 4 6 2 (.bipush 8) := ⟨by decide +kernel, rfl⟩
theorem iX3_source_6 : Ins mX3_source 6 7 1 (.iload_n 1) := ⟨by decide +kernel, rfl⟩
theorem iX3_source_7 : Ins mX3_source 7 8 1 (.imul) := ⟨by decide +kernel, rfl⟩
theorem iX3_source_8 : Ins mX3_source 8 9 1 (.iload_n 2) := ⟨by decide +kernel, rfl⟩
theorem iX3_source_9 : Ins mX3_source 9 10 1 (.iadd) := ⟨by decide +kernel, rfl⟩
theorem iX3_source_10 : Ins mX3_source 10 11 1 (.iaload) := ⟨by decide +kernel, rfl⟩
theorem iX3_source_11 : Ins mX3_source 11 12 1 (.ireturn) := ⟨by decide +kernel, rfl⟩
theorem iX3_everybody_0 : Ins mX3_everybody 0 1 1 (.iconst 1) := ⟨by decide +kernel, rfl⟩
theorem iX3_everybody_1 : Ins mX3_everybody 1 2 1 (.aload_n 0) := ⟨by decide +kernel, rfl⟩
theorem iX3_everybody_2 : Ins mX3_everybody 2 5 3 (.getfield 48) := ⟨by decide +kernel, rfl⟩
theorem iX3_everybody_5 : Ins mX3_everybody 5 6 1 (.ishl) := ⟨by decide +kernel, rfl⟩
theorem iX3_everybody_6 : Ins mX3_everybody 6 7 1 (.iconst 1) := ⟨by decide +kernel, rfl⟩
theorem iX3_everybody_7 : Ins mX3_everybody 7 8 1 (.isub) := ⟨by decide +kernel, rfl⟩
theorem iX3_everybody_8 : Ins mX3_everybody 8 9 1 (.ireturn) := ⟨by decide +kernel, rfl⟩
theorem iX3_silence_0 : Ins mX3_silence 0 1 1 (.iconst 0) := ⟨by decide +kernel, rfl⟩
theorem iX3_silence_1 : Ins mX3_silence 1 2 1 (.istore_n 2) := ⟨by decide +kernel, rfl⟩
theorem iX3_silence_2 : Ins mX3_silence 2 3 1 (.iload_n 2) := ⟨by decide +kernel, rfl⟩
theorem iX3_silence_3 : Ins mX3_silence 3 4 1 (.aload_n 0) := ⟨by decide +kernel, rfl⟩
theorem iX3_silence_4 : Ins mX3_silence 4 7 3 (.getfield 48) := ⟨by decide +kernel, rfl⟩
theorem iX3_silence_7 : InB mX3_silence 7 10 31 (.if_icmp .ge) := ⟨by decide +kernel, rfl⟩
theorem iX3_silence_10 : Ins mX3_silence 10 11 1 (.iload_n 1) := ⟨by decide +kernel, rfl⟩
theorem iX3_silence_11 : Ins mX3_silence 11 12 1 (.iload_n 2) := ⟨by decide +kernel, rfl⟩
theorem iX3_silence_12 : Ins mX3_silence 12 13 1 (.ishr) := ⟨by decide +kernel, rfl⟩
theorem iX3_silence_13 : Ins mX3_silence 13 14 1 (.iconst 1) := ⟨by decide +kernel, rfl⟩
theorem iX3_silence_14 : Ins mX3_silence 14 15 1 (.iand) := ⟨by decide +kernel, rfl⟩
theorem iX3_silence_15 : InB mX3_silence 15 18 25 (.ifCond .eq) := ⟨by decide +kernel, rfl⟩
theorem iX3_silence_18 : Ins mX3_silence 18 19 1 (.aload_n 0) := ⟨by decide +kernel, rfl⟩
theorem iX3_silence_19 : Ins mX3_silence 19 22 3 (.getfield 27) := ⟨by decide +kernel, rfl⟩
theorem iX3_silence_22 : Ins mX3_silence 22 23 1 (.iload_n 2) := ⟨by decide +kernel, rfl⟩
theorem iX3_silence_23 : Ins mX3_silence 23 24 1 (.iconst 1) := ⟨by decide +kernel, rfl⟩
theorem iX3_silence_24 : Ins mX3_silence 24 25 1 (.iastore) := ⟨by decide +kernel, rfl⟩
theorem iX3_silence_25 : Ins mX3_silence 25 28 3 (.iinc 2 1) := ⟨by decide +kernel, rfl⟩
theorem iX3_silence_28 : InB mX3_silence 28 31 2 .goto := ⟨by decide +kernel, rfl⟩
theorem iX3_silence_31 : Ins mX3_silence 31 32 1 (.return_) := ⟨by decide +kernel, rfl⟩
theorem iX3_listToday_0 : Ins mX3_listToday 0 1 1 (.aload_n 0) := ⟨by decide +kernel, rfl⟩
theorem iX3_listToday_1 : Ins mX3_listToday 1 4 3 (.getfield 9) := ⟨by decide +kernel, rfl⟩
theorem iX3_listToday_4 : Ins mX3_listToday 4 5 1 (.aload_n 0) := ⟨by decide +kernel, rfl⟩
theorem iX3_listToday_5 : Ins mX3_listToday 5 8 3 (.getfield 58) := ⟨by decide +kernel, rfl⟩
theorem iX3_listToday_8 : Ins mX3_listToday 8 10 2 (.bipush 6) := ⟨by decide +kernel, rfl⟩
theorem iX3_listToday_10 : Ins mX3_listToday 10 11 1 (.irem) := ⟨by decide +kernel, rfl⟩
theorem iX3_listToday_11 : Ins mX3_listToday 11 13 2 (.bipush 10) := ⟨by decide +kernel, rfl⟩
theorem iX3_listToday_13 : Ins mX3_listToday 13 14 1 (.iload_n 1) := ⟨by decide +kernel, rfl⟩
theorem iX3_listToday_14 : Ins mX3_listToday 14 15 1 (.imul) := ⟨by decide +kernel, rfl⟩
theorem iX3_listToday_15 : Ins mX3_listToday 15 16 1 (.iload_n 2) := ⟨by decide +kernel, rfl⟩
theorem iX3_listToday_16 : Ins mX3_listToday 16 17 1 (.iadd) := ⟨by decide +kernel, rfl⟩
theorem iX3_listToday_17 : Ins mX3_listToday 17 18 1 (.iastore) := ⟨by decide +kernel, rfl⟩
theorem iX3_listToday_18 : Ins mX3_listToday 18 19 1 (.return_) := ⟨by decide +kernel, rfl⟩
theorem iX3_wouldTell_0 : Ins mX3_wouldTell 0 1 1 (.aload_n 0) := ⟨by decide +kernel, rfl⟩
theorem iX3_wouldTell_1 : Ins mX3_wouldTell 1 4 3 (.getfield 21) := ⟨by decide +kernel, rfl⟩
theorem iX3_wouldTell_4 : Ins mX3_wouldTell 4 5 1 (.iload_n 2) := ⟨by decide +kernel, rfl⟩
theorem iX3_wouldTell_5 : Ins mX3_wouldTell 5 6 1 (.iaload) := ⟨by decide +kernel, rfl⟩
theorem iX3_wouldTell_6 : decode mX3_wouldTell.2.1 6 = .ok (.tableswitch 134 0 6 #[42, 58, 76, 92, 118, 134, 60], 42) := by decide +kernel
theorem iX3_wouldTell_48 : Ins mX3_wouldTell 48 49 1 (.aload_n 0) := ⟨by decide +kernel, rfl⟩
theorem iX3_wouldTell_49 : Ins mX3_wouldTell 49 52 3 (.getfield 33) := ⟨by decide +kernel, rfl⟩
theorem iX3_wouldTell_52 : Ins mX3_wouldTell 52 53 1 (.iload_n 1) := ⟨by decide +kernel, rfl⟩
theorem iX3_wouldTell_53 : Ins mX3_wouldTell 53 54 1 (.iaload) := ⟨by decide +kernel, rfl⟩
theorem iX3_wouldTell_54 : Ins mX3_wouldTell 54 55 1 (.iload_n 2) := ⟨by decide +kernel, rfl⟩
theorem iX3_wouldTell_55 : InB mX3_wouldTell 55 58 62 (.if_icmp .eq) := ⟨by decide +kernel, rfl⟩
theorem iX3_wouldTell_58 : Ins mX3_wouldTell 58 59 1 (.iconst 1) := ⟨by decide +kernel, rfl⟩
theorem iX3_wouldTell_59 : InB mX3_wouldTell 59 62 63 .goto := ⟨by decide +kernel, rfl⟩
theorem iX3_wouldTell_62 : Ins mX3_wouldTell 62 63 1 (.iconst 0) := ⟨by decide +kernel, rfl⟩
theorem iX3_wouldTell_63 : Ins mX3_wouldTell 63 64 1 (.ireturn) := ⟨by decide +kernel, rfl⟩
theorem iX3_wouldTell_64 : Ins mX3_wouldTell 64 65 1 (.iconst 1) := ⟨by decide +kernel, rfl⟩
theorem iX3_wouldTell_65 : Ins mX3_wouldTell 65 66 1 (.ireturn) := ⟨by decide +kernel, rfl⟩
theorem iX3_wouldTell_66 : Ins mX3_wouldTell 66 67 1 (.aload_n 0) := ⟨by decide +kernel, rfl⟩
theorem iX3_wouldTell_67 : Ins mX3_wouldTell 67 70 3 (.getfield 33) := ⟨by decide +kernel, rfl⟩
theorem iX3_wouldTell_70 : Ins mX3_wouldTell 70 71 1 (.iload_n 1) := ⟨by decide +kernel, rfl⟩
theorem iX3_wouldTell_71 : Ins mX3_wouldTell 71 72 1 (.iaload) := ⟨by decide +kernel, rfl⟩
theorem iX3_wouldTell_72 : Ins mX3_wouldTell 72 73 1 (.iload_n 3) := ⟨by decide +kernel, rfl⟩
theorem iX3_wouldTell_73 : InB mX3_wouldTell 73 76 80 (.if_icmp .eq) := ⟨by decide +kernel, rfl⟩
theorem iX3_wouldTell_76 : Ins mX3_wouldTell 76 77 1 (.iconst 1) := ⟨by decide +kernel, rfl⟩
theorem iX3_wouldTell_77 : InB mX3_wouldTell 77 80 81 .goto := ⟨by decide +kernel, rfl⟩
theorem iX3_wouldTell_80 : Ins mX3_wouldTell 80 81 1 (.iconst 0) := ⟨by decide +kernel, rfl⟩
theorem iX3_wouldTell_81 : Ins mX3_wouldTell 81 82 1 (.ireturn) := ⟨by decide +kernel, rfl⟩
theorem iX3_wouldTell_82 : Ins mX3_wouldTell 82 83 1 (.aload_n 0) := ⟨by decide +kernel, rfl⟩
theorem iX3_wouldTell_83 : Ins mX3_wouldTell 83 86 3 (.getfield 36) := ⟨by decide +kernel, rfl⟩
theorem iX3_wouldTell_86 : Ins mX3_wouldTell 86 87 1 (.iload_n 1) := ⟨by decide +kernel, rfl⟩
theorem iX3_wouldTell_87 : Ins mX3_wouldTell 87 88 1 (.iaload) := ⟨by decide +kernel, rfl⟩
theorem iX3_wouldTell_88 : Ins mX3_wouldTell 88 89 1 (.iconst 5) := ⟨by decide +kernel, rfl⟩
theorem iX3_wouldTell_89 : InB mX3_wouldTell 89 92 96 (.if_icmp .lt) := ⟨by decide +kernel, rfl⟩
theorem iX3_wouldTell_92 : Ins mX3_wouldTell 92 93 1 (.iconst 1) := ⟨by decide +kernel, rfl⟩
theorem iX3_wouldTell_93 : InB mX3_wouldTell 93 96 97 .goto := ⟨by decide +kernel, rfl⟩
theorem iX3_wouldTell_96 : Ins mX3_wouldTell 96 97 1 (.iconst 0) := ⟨by decide +kernel, rfl⟩
theorem iX3_wouldTell_97 : Ins mX3_wouldTell 97 98 1 (.ireturn) := ⟨by decide +kernel, rfl⟩
theorem iX3_wouldTell_98 : Ins mX3_wouldTell 98 99 1 (.aload_n 0) := ⟨by decide +kernel, rfl⟩
theorem iX3_wouldTell_99 : Ins mX3_wouldTell 99 102 3 (.getfield 36) := ⟨by decide +kernel, rfl⟩
theorem iX3_wouldTell_102 : Ins mX3_wouldTell 102 103 1 (.iload_n 1) := ⟨by decide +kernel, rfl⟩
theorem iX3_wouldTell_103 : Ins mX3_wouldTell 103 104 1 (.iaload) := ⟨by decide +kernel, rfl⟩
theorem iX3_wouldTell_104 : Ins mX3_wouldTell 104 105 1 (.iconst 5) := ⟨by decide +kernel, rfl⟩
theorem iX3_wouldTell_105 : InB mX3_wouldTell 105 108 122 (.if_icmp .lt) := ⟨by decide +kernel, rfl⟩
theorem iX3_wouldTell_108 : Ins mX3_wouldTell 108 109 1 (.aload_n 0) := ⟨by decide +kernel, rfl⟩
theorem iX3_wouldTell_109 : Ins mX3_wouldTell 109 112 3 (.getfield 33) := ⟨by decide +kernel, rfl⟩
theorem iX3_wouldTell_112 : Ins mX3_wouldTell 112 113 1 (.iload_n 1) := ⟨by decide +kernel, rfl⟩
theorem iX3_wouldTell_113 : Ins mX3_wouldTell 113 114 1 (.iaload) := ⟨by decide +kernel, rfl⟩
theorem iX3_wouldTell_114 : Ins mX3_wouldTell 114 115 1 (.iload_n 3) := ⟨by decide +kernel, rfl⟩
theorem iX3_wouldTell_115 : InB mX3_wouldTell 115 118 122 (.if_icmp .eq) := ⟨by decide +kernel, rfl⟩
theorem iX3_wouldTell_118 : Ins mX3_wouldTell 118 119 1 (.iconst 1) := ⟨by decide +kernel, rfl⟩
theorem iX3_wouldTell_119 : InB mX3_wouldTell 119 122 123 .goto := ⟨by decide +kernel, rfl⟩
theorem iX3_wouldTell_122 : Ins mX3_wouldTell 122 123 1 (.iconst 0) := ⟨by decide +kernel, rfl⟩
theorem iX3_wouldTell_123 : Ins mX3_wouldTell 123 124 1 (.ireturn) := ⟨by decide +kernel, rfl⟩
theorem iX3_wouldTell_124 : Ins mX3_wouldTell 124 125 1 (.aload_n 0) := ⟨by decide +kernel, rfl⟩
theorem iX3_wouldTell_125 : Ins mX3_wouldTell 125 128 3 (.getfield 33) := ⟨by decide +kernel, rfl⟩
theorem iX3_wouldTell_128 : Ins mX3_wouldTell 128 129 1 (.iload_n 1) := ⟨by decide +kernel, rfl⟩
theorem iX3_wouldTell_129 : Ins mX3_wouldTell 129 130 1 (.iaload) := ⟨by decide +kernel, rfl⟩
theorem iX3_wouldTell_130 : Ins mX3_wouldTell 130 131 1 (.iload_n 2) := ⟨by decide +kernel, rfl⟩
theorem iX3_wouldTell_131 : InB mX3_wouldTell 131 134 138 (.if_icmp .ne) := ⟨by decide +kernel, rfl⟩
theorem iX3_wouldTell_134 : Ins mX3_wouldTell 134 135 1 (.iconst 1) := ⟨by decide +kernel, rfl⟩
theorem iX3_wouldTell_135 : InB mX3_wouldTell 135 138 139 .goto := ⟨by decide +kernel, rfl⟩
theorem iX3_wouldTell_138 : Ins mX3_wouldTell 138 139 1 (.iconst 0) := ⟨by decide +kernel, rfl⟩
theorem iX3_wouldTell_139 : Ins mX3_wouldTell 139 140 1 (.ireturn) := ⟨by decide +kernel, rfl⟩
theorem iX3_wouldTell_140 : Ins mX3_wouldTell 140 141 1 (.iconst 0) := ⟨by decide +kernel, rfl⟩
theorem iX3_wouldTell_141 : Ins mX3_wouldTell 141 142 1 (.ireturn) := ⟨by decide +kernel, rfl⟩
theorem iX3_wouldBelieve_0 : Ins mX3_wouldBelieve 0 1 1 (.iload_n 3) := ⟨by decide +kernel, rfl⟩
theorem iX3_wouldBelieve_1 : Ins mX3_wouldBelieve 1 2 1 (.aload_n 0) := ⟨by decide +kernel, rfl⟩
theorem iX3_wouldBelieve_2 : Ins mX3_wouldBelieve 2 5 3 (.getfield 24) := ⟨by decide +kernel, rfl⟩
theorem iX3_wouldBelieve_5 : Ins mX3_wouldBelieve 5 6 1 (.iload_n 1) := ⟨by decide +kernel, rfl⟩
theorem iX3_wouldBelieve_6 : Ins mX3_wouldBelieve 6 7 1 (.iaload) := ⟨by decide +kernel, rfl⟩
theorem iX3_wouldBelieve_7 : InB mX3_wouldBelieve 7 10 14 (.if_icmp .gt) := ⟨by decide +kernel, rfl⟩
theorem iX3_wouldBelieve_10 : Ins mX3_wouldBelieve 10 11 1 (.iconst 1) := ⟨by decide +kernel, rfl⟩
theorem iX3_wouldBelieve_11 : InB mX3_wouldBelieve 11 14 15 .goto := ⟨by decide +kernel, rfl⟩
theorem iX3_wouldBelieve_14 : Ins mX3_wouldBelieve 14 15 1 (.iconst 0) := ⟨by decide +kernel, rfl⟩
theorem iX3_wouldBelieve_15 : Ins mX3_wouldBelieve 15 17 2 (.istore 4) := ⟨by decide +kernel, rfl⟩
theorem iX3_wouldBelieve_17 : Ins mX3_wouldBelieve 17 18 1 (.aload_n 0) := ⟨by decide +kernel, rfl⟩
theorem iX3_wouldBelieve_18 : Ins mX3_wouldBelieve 18 21 3 (.getfield 21) := ⟨by decide +kernel, rfl⟩
theorem iX3_wouldBelieve_21 : Ins mX3_wouldBelieve 21 22 1 (.iload_n 1) := ⟨by decide +kernel, rfl⟩
theorem iX3_wouldBelieve_22 : Ins mX3_wouldBelieve 22 23 1 (.iaload) := ⟨by decide +kernel, rfl⟩
theorem iX3_wouldBelieve_23 : decode mX3_wouldBelieve.2.1 23 = .ok (.tableswitch 98 1 6 #[37, 57, 73, 37, 98, 39], 37) := by decide +kernel
theorem iX3_wouldBelieve_60 : Ins mX3_wouldBelieve 60 61 1 (.iconst 1) := ⟨by decide +kernel, rfl⟩
theorem iX3_wouldBelieve_61 : Ins mX3_wouldBelieve 61 62 1 (.ireturn) := ⟨by decide +kernel, rfl⟩
theorem iX3_wouldBelieve_62 : Ins mX3_wouldBelieve 62 63 1 (.iload_n 3) := ⟨by decide +kernel, rfl⟩
theorem iX3_wouldBelieve_63 : Ins mX3_wouldBelieve 63 64 1 (.iconst 2) := ⟨by decide +kernel, rfl⟩
theorem iX3_wouldBelieve_64 : Ins mX3_wouldBelieve 64 65 1 (.irem) := ⟨by decide +kernel, rfl⟩
theorem iX3_wouldBelieve_65 : Ins mX3_wouldBelieve 65 66 1 (.iconst 1) := ⟨by decide +kernel, rfl⟩
theorem iX3_wouldBelieve_66 : InB mX3_wouldBelieve 66 69 74 (.if_icmp .eq) := ⟨by decide +kernel, rfl⟩
theorem iX3_wouldBelieve_69 : Ins mX3_wouldBelieve 69 71 2 (.iload 4) := ⟨by decide +kernel, rfl⟩
theorem iX3_wouldBelieve_71 : InB mX3_wouldBelieve 71 74 78 (.ifCond .eq) := ⟨by decide +kernel, rfl⟩
theorem iX3_wouldBelieve_74 : Ins mX3_wouldBelieve 74 75 1 (.iconst 1) := ⟨by decide +kernel, rfl⟩
theorem iX3_wouldBelieve_75 : InB mX3_wouldBelieve 75 78 79 .goto := ⟨by decide +kernel, rfl⟩
theorem iX3_wouldBelieve_78 : Ins mX3_wouldBelieve 78 79 1 (.iconst 0) := ⟨by decide +kernel, rfl⟩
theorem iX3_wouldBelieve_79 : Ins mX3_wouldBelieve 79 80 1 (.ireturn) := ⟨by decide +kernel, rfl⟩
theorem iX3_wouldBelieve_80 : Ins mX3_wouldBelieve 80 82 2 (.iload 4) := ⟨by decide +kernel, rfl⟩
theorem iX3_wouldBelieve_82 : InB mX3_wouldBelieve 82 85 94 (.ifCond .eq) := ⟨by decide +kernel, rfl⟩
theorem iX3_wouldBelieve_85 : Ins mX3_wouldBelieve 85 86 1 (.iload_n 2) := ⟨by decide +kernel, rfl⟩
theorem iX3_wouldBelieve_86 : Ins mX3_wouldBelieve 86 87 1 (.iload_n 1) := ⟨by decide +kernel, rfl⟩
theorem iX3_wouldBelieve_87 : InB mX3_wouldBelieve 87 90 94 (.if_icmp .eq) := ⟨by decide +kernel, rfl⟩
theorem iX3_wouldBelieve_90 : Ins mX3_wouldBelieve 90 91 1 (.iconst 1) := ⟨by decide +kernel, rfl⟩
theorem iX3_wouldBelieve_91 : InB mX3_wouldBelieve 91 94 95 .goto := ⟨by decide +kernel, rfl⟩
theorem iX3_wouldBelieve_94 : Ins mX3_wouldBelieve 94 95 1 (.iconst 0) := ⟨by decide +kernel, rfl⟩
theorem iX3_wouldBelieve_95 : Ins mX3_wouldBelieve 95 96 1 (.ireturn) := ⟨by decide +kernel, rfl⟩
theorem iX3_wouldBelieve_96 : Ins mX3_wouldBelieve 96 98 2 (.iload 4) := ⟨by decide +kernel, rfl⟩
theorem iX3_wouldBelieve_98 : InB mX3_wouldBelieve 98 101 119 (.ifCond .eq) := ⟨by decide +kernel, rfl⟩
theorem iX3_wouldBelieve_101 : Ins mX3_wouldBelieve 101 102 1 (.iload_n 2) := ⟨by decide +kernel, rfl⟩
theorem iX3_wouldBelieve_102 : Ins mX3_wouldBelieve 102 103 1 (.iload_n 1) := ⟨by decide +kernel, rfl⟩
theorem iX3_wouldBelieve_103 : InB mX3_wouldBelieve 103 106 119 (.if_icmp .eq) := ⟨by decide +kernel, rfl⟩
theorem iX3_wouldBelieve_106 : Ins mX3_wouldBelieve 106 107 1 (.aload_n 0) := ⟨by decide +kernel, rfl⟩
theorem iX3_wouldBelieve_107 : Ins mX3_wouldBelieve 107 110 3 (.getfield 58) := ⟨by decide +kernel, rfl⟩
theorem iX3_wouldBelieve_110 : Ins mX3_wouldBelieve 110 111 1 (.iconst 2) := ⟨by decide +kernel, rfl⟩
theorem iX3_wouldBelieve_111 : Ins mX3_wouldBelieve 111 112 1 (.irem) := ⟨by decide +kernel, rfl⟩
theorem iX3_wouldBelieve_112 : InB mX3_wouldBelieve 112 115 119 (.ifCond .ne) := ⟨by decide +kernel, rfl⟩
theorem iX3_wouldBelieve_115 : Ins mX3_wouldBelieve 115 116 1 (.iconst 1) := ⟨by decide +kernel, rfl⟩
theorem iX3_wouldBelieve_116 : InB mX3_wouldBelieve 116 119 120 .goto := ⟨by decide +kernel, rfl⟩
theorem iX3_wouldBelieve_119 : Ins mX3_wouldBelieve 119 120 1 (.iconst 0) := ⟨by decide +kernel, rfl⟩
theorem iX3_wouldBelieve_120 : Ins mX3_wouldBelieve 120 121 1 (.ireturn) := ⟨by decide +kernel, rfl⟩
theorem iX3_wouldBelieve_121 : Ins mX3_wouldBelieve 121 123 2 (.iload 4) := ⟨by decide +kernel, rfl⟩
theorem iX3_wouldBelieve_123 : Ins mX3_wouldBelieve 123 124 1 (.ireturn) := ⟨by decide +kernel, rfl⟩
theorem iX3_whomNames_0 : Ins mX3_whomNames 0 1 1 (.aload_n 0) := ⟨by decide +kernel, rfl⟩
theorem iX3_whomNames_1 : Ins mX3_whomNames 1 4 3 (.getfield 21) := ⟨by decide +kernel, rfl⟩
theorem iX3_whomNames_4 : Ins mX3_whomNames 4 5 1 (.iload_n 1) := ⟨by decide +kernel, rfl⟩
theorem iX3_whomNames_5 : Ins mX3_whomNames 5 6 1 (.iaload) := ⟨by decide +kernel, rfl⟩
theorem iX3_whomNames_6 : decode mX3_whomNames.2.1 6 = .ok (.tableswitch 37 1 5 #[34, 37, 37, 34, 34], 34) := by decide +kernel
theorem iX3_whomNames_40 : Ins mX3_whomNames 40 42 2 (.bipush 8) := ⟨by decide +kernel, rfl⟩
theorem iX3_whomNames_42 : Ins mX3_whomNames 42 43 1 (.ireturn) := ⟨by decide +kernel, rfl⟩
theorem iX3_whomNames_43 : Ins mX3_whomNames 43 44 1 (.iload_n 2) := ⟨by decide +kernel, rfl⟩
theorem iX3_whomNames_44 : Ins mX3_whomNames 44 45 1 (.ireturn) := ⟨by decide +kernel, rfl⟩
theorem iX3_payment_0 : Ins mX3_payment 0 1 1 (.aload_n 0) := ⟨by decide +kernel, rfl⟩
theorem iX3_payment_1 : Ins mX3_payment 1 4 3 (.getfield 21) := ⟨by decide +kernel, rfl⟩
theorem iX3_payment_4 : Ins mX3_payment 4 5 1 (.iload_n 1) := ⟨by decide +kernel, rfl⟩
theorem iX3_payment_5 : Ins mX3_payment 5 6 1 (.iaload) := ⟨by decide +kernel, rfl⟩
theorem iX3_payment_6 : decode mX3_payment.2.1 6 = .ok (.tableswitch 55 1 6 #[38, 44, 48, 53, 55, 42], 38) := by decide +kernel
theorem iX3_payment_44 : Ins mX3_payment 44 45 1 (.iconst 2) := ⟨by decide +kernel, rfl⟩
theorem iX3_payment_45 : Ins mX3_payment 45 46 1 (.iload_n 2) := ⟨by decide +kernel, rfl⟩
theorem iX3_payment_46 : Ins mX3_payment 46 47 1 (.imul) := ⟨by decide +kernel, rfl⟩
theorem iX3_payment_47 : Ins mX3_payment 47 48 1 (.ireturn) := ⟨by decide +kernel, rfl⟩
theorem iX3_payment_48 : Ins mX3_payment 48 49 1 (.iconst 0) := ⟨by decide +kernel, rfl⟩
theorem iX3_payment_49 : Ins mX3_payment 49 50 1 (.ireturn) := ⟨by decide +kernel, rfl⟩
theorem iX3_payment_50 : Ins mX3_payment 50 51 1 (.iload_n 2) := ⟨by decide +kernel, rfl⟩
theorem iX3_payment_51 : Ins mX3_payment 51 52 1 (.iconst 2) := ⟨by decide +kernel, rfl⟩
theorem iX3_payment_52 : Ins mX3_payment 52 53 1 (.iadd) := ⟨by decide +kernel, rfl⟩
theorem iX3_payment_53 : Ins mX3_payment 53 54 1 (.ireturn) := ⟨by decide +kernel, rfl⟩
theorem iX3_payment_54 : Ins mX3_payment 54 55 1 (.iload_n 2) := ⟨by decide +kernel, rfl⟩
theorem iX3_payment_55 : Ins mX3_payment 55 57 2 (.bipush 7) := ⟨by decide +kernel, rfl⟩
theorem iX3_payment_57 : Ins mX3_payment 57 58 1 (.iadd) := ⟨by decide +kernel, rfl⟩
theorem iX3_payment_58 : Ins mX3_payment 58 59 1 (.ireturn) := ⟨by decide +kernel, rfl⟩
theorem iX3_payment_59 : Ins mX3_payment 59 60 1 (.iconst 1) := ⟨by decide +kernel, rfl⟩
theorem iX3_payment_60 : Ins mX3_payment 60 61 1 (.ireturn) := ⟨by decide +kernel, rfl⟩
theorem iX3_payment_61 : Ins mX3_payment 61 62 1 (.iload_n 2) := ⟨by decide +kernel, rfl⟩
theorem iX3_payment_62 : Ins mX3_payment 62 63 1 (.ireturn) := ⟨by decide +kernel, rfl⟩
theorem iX3_passOn_0 : Ins mX3_passOn 0 1 1 (.iconst 0) := ⟨by decide +kernel, rfl⟩
theorem iX3_passOn_1 : Ins mX3_passOn 1 2 1 (.istore_n 3) := ⟨by decide +kernel, rfl⟩
theorem iX3_passOn_2 : Ins mX3_passOn 2 3 1 (.aload_n 0) := ⟨by decide +kernel, rfl⟩
theorem iX3_passOn_3 : Ins mX3_passOn 3 6 3 (.getfield 27) := ⟨by decide +kernel, rfl⟩
theorem iX3_passOn_6 : Ins mX3_passOn 6 7 1 (.iload_n 1) := ⟨by decide +kernel, rfl⟩
theorem iX3_passOn_7 : Ins mX3_passOn 7 8 1 (.iaload) := ⟨by decide +kernel, rfl⟩
theorem iX3_passOn_8 : InB mX3_passOn 8 11 20 (.ifCond .ne) := ⟨by decide +kernel, rfl⟩
theorem iX3_passOn_11 : Ins mX3_passOn 11 12 1 (.aload_n 0) := ⟨by decide +kernel, rfl⟩
theorem iX3_passOn_12 : Ins mX3_passOn 12 15 3 (.getfield 27) := ⟨by decide +kernel, rfl⟩
theorem iX3_passOn_15 : Ins mX3_passOn 15 16 1 (.iload_n 2) := ⟨by decide +kernel, rfl⟩
theorem iX3_passOn_16 : Ins mX3_passOn 16 17 1 (.iaload) := ⟨by decide +kernel, rfl⟩
theorem iX3_passOn_17 : InB mX3_passOn 17 20 22 (.ifCond .eq) := ⟨by decide +kernel, rfl⟩
theorem iX3_passOn_20 : Ins mX3_passOn 20 21 1 (.iload_n 3) := ⟨by decide +kernel, rfl⟩
theorem iX3_passOn_21 : Ins mX3_passOn 21 22 1 (.ireturn) := ⟨by decide +kernel, rfl⟩
theorem iX3_passOn_22 : Ins mX3_passOn 22 23 1 (.iconst 0) := ⟨by decide +kernel, rfl⟩
theorem iX3_passOn_23 : Ins mX3_passOn 23 25 2 (.istore 4) := ⟨by decide +kernel, rfl⟩
theorem iX3_passOn_25 : Ins mX3_passOn 25 27 2 (.iload 4) := ⟨by decide +kernel, rfl⟩
theorem iX3_passOn_27 : Ins mX3_passOn 27 28 1 (.aload_n 0) := ⟨by decide +kernel, rfl⟩
theorem iX3_passOn_28 : Ins mX3_passOn 28 31 3 (.getfield 52) := ⟨by decide +kernel, rfl⟩
theorem iX3_passOn_31 : InB mX3_passOn 31 34 131 (.if_icmp .ge) := ⟨by decide +kernel, rfl⟩
theorem iX3_passOn_34 : Ins mX3_passOn 34 35 1 (.aload_n 0) := ⟨by decide +kernel, rfl⟩
theorem iX3_passOn_35 : Ins mX3_passOn 35 37 2 (.iload 4) := ⟨by decide +kernel, rfl⟩
theorem iX3_passOn_37 : Ins mX3_passOn 37 38 1 (.iload_n 1) := ⟨by decide +kernel, rfl⟩
theorem iX3_passOn_38 : Ins mX3_passOn 38 41 3 (.invokevirtual 74) := ⟨by decide +kernel, rfl⟩
theorem iX3_passOn_41 : InB mX3_passOn 41 44 125 (.ifCond .eq) := ⟨by decide +kernel, rfl⟩
theorem iX3_passOn_44 : Ins mX3_passOn 44 45 1 (.aload_n 0) := ⟨by decide +kernel, rfl⟩
theorem iX3_passOn_45 : Ins mX3_passOn 45 47 2 (.iload 4) := ⟨by decide +kernel, rfl⟩
theorem iX3_passOn_47 : Ins mX3_passOn 47 48 1 (.iload_n 2) := ⟨by decide +kernel, rfl⟩
theorem iX3_passOn_48 : Ins mX3_passOn 48 51 3 (.invokevirtual 74) := ⟨by decide +kernel, rfl⟩
theorem iX3_passOn_51 : InB mX3_passOn 51 54 125 (.ifCond .ne) := ⟨by decide +kernel, rfl⟩
theorem iX3_passOn_54 : Ins mX3_passOn 54 55 1 (.aload_n 0) := ⟨by decide +kernel, rfl⟩
theorem iX3_passOn_55 : Ins mX3_passOn 55 57 2 (.iload 4) := ⟨by decide +kernel, rfl⟩
theorem iX3_passOn_57 : Ins mX3_passOn 57 58 1 (.iload_n 1) := ⟨by decide +kernel, rfl⟩
theorem iX3_passOn_58 : Ins mX3_passOn 58 59 1 (.iload_n 2) := ⟨by decide +kernel, rfl⟩
theorem iX3_passOn_59 : Ins mX3_passOn 59 62 3 (.invokevirtual 78) := ⟨by decide +kernel, rfl⟩
theorem iX3_passOn_62 : InB mX3_passOn 62 65 125 (.ifCond .eq) := ⟨by decide +kernel, rfl⟩
theorem iX3_passOn_65 : Ins mX3_passOn 65 66 1 (.aload_n 0) := ⟨by decide +kernel, rfl⟩
theorem iX3_passOn_66 : Ins mX3_passOn 66 67 1 (.iload_n 2) := ⟨by decide +kernel, rfl⟩
theorem iX3_passOn_67 : Ins mX3_passOn 67 68 1 (.aload_n 0) := ⟨by decide +kernel, rfl⟩
theorem iX3_passOn_68 : Ins mX3_passOn 68 71 3 (.getfield 33) := ⟨by decide +kernel, rfl⟩
theorem iX3_passOn_71 : Ins mX3_passOn 71 73 2 (.iload 4) := ⟨by decide +kernel, rfl⟩
theorem iX3_passOn_73 : Ins mX3_passOn 73 74 1 (.iaload) := ⟨by decide +kernel, rfl⟩
theorem iX3_passOn_74 : Ins mX3_passOn 74 75 1 (.aload_n 0) := ⟨by decide +kernel, rfl⟩
theorem iX3_passOn_75 : Ins mX3_passOn 75 78 3 (.getfield 36) := ⟨by decide +kernel, rfl⟩
theorem iX3_passOn_78 : Ins mX3_passOn 78 80 2 (.iload 4) := ⟨by decide +kernel, rfl⟩
theorem iX3_passOn_80 : Ins mX3_passOn 80 81 1 (.iaload) := ⟨by decide +kernel, rfl⟩
theorem iX3_passOn_81 : Ins mX3_passOn 81 84 3 (.invokevirtual 82) := ⟨by decide +kernel, rfl⟩
theorem iX3_passOn_84 : InB mX3_passOn 84 87 125 (.ifCond .eq) := ⟨by decide +kernel, rfl⟩
theorem iX3_passOn_87 : Ins mX3_passOn 87 88 1 (.aload_n 0) := ⟨by decide +kernel, rfl⟩
theorem iX3_passOn_88 : Ins mX3_passOn 88 91 3 (.getfield 39) := ⟨by decide +kernel, rfl⟩
theorem iX3_passOn_91 : Ins mX3_passOn 91 93 2 (.iload 4) := ⟨by decide +kernel, rfl⟩
theorem iX3_passOn_93 : Ins mX3_passOn 93 94 1 (.dup2) := ⟨by decide +kernel, rfl⟩
theorem iX3_passOn_94 : Ins mX3_passOn 94 95 1 (.iaload) := ⟨by decide +kernel, rfl⟩
theorem iX3_passOn_95 : Ins mX3_passOn 95 96 1 (.iconst 1) := ⟨by decide +kernel, rfl⟩
theorem iX3_passOn_96 : Ins mX3_passOn 96 97 1 (.iload_n 2) := ⟨by decide +kernel, rfl⟩
theorem iX3_passOn_97 : Ins mX3_passOn 97 98 1 (.ishl) := ⟨by decide +kernel, rfl⟩
theorem iX3_passOn_98 : Ins mX3_passOn 98 99 1 (.ior) := ⟨by decide +kernel, rfl⟩
theorem iX3_passOn_99 : Ins mX3_passOn 99 100 1 (.iastore) := ⟨by decide +kernel, rfl⟩
theorem iX3_passOn_100 : Ins mX3_passOn 100 101 1 (.aload_n 0) := ⟨by decide +kernel, rfl⟩
theorem iX3_passOn_101 : Ins mX3_passOn 101 104 3 (.getfield 42) := ⟨by decide +kernel, rfl⟩
theorem iX3_passOn_104 : Ins mX3_passOn 104 106 2 (.bipush 8) := ⟨by decide +kernel, rfl⟩
theorem iX3_passOn_106 : Ins mX3_passOn 106 108 2 (.iload 4) := ⟨by decide +kernel, rfl⟩
theorem iX3_passOn_108 : Ins mX3_passOn 108 109 1 (.imul) := ⟨by decide +kernel, rfl⟩
theorem iX3_passOn_109 : Ins mX3_passOn 109 110 1 (.iload_n 2) := ⟨by decide +kernel, rfl⟩
theorem iX3_passOn_110 : Ins mX3_passOn 110 111 1 (.iadd) := ⟨by decide +kernel, rfl⟩
theorem iX3_passOn_111 : Ins mX3_passOn 111 112 1 (.aload_n 0) := ⟨by decide +kernel, rfl⟩
theorem iX3_passOn_112 : Ins mX3_passOn 112 113 1 (.iload_n 2) := ⟨by decide +kernel, rfl⟩
theorem iX3_passOn_113 : Ins mX3_passOn 113 114 1 (.iload_n 1) := ⟨by decide +kernel, rfl⟩
theorem iX3_passOn_114 : Ins mX3_passOn 114 117 3 (.invokevirtual 85) := ⟨by decide +kernel, rfl⟩
theorem iX3_passOn_117 : Ins mX3_passOn 117 118 1 (.iastore) := ⟨by decide +kernel, rfl⟩
theorem iX3_passOn_118 : Ins mX3_passOn 118 119 1 (.iload_n 3) := ⟨by decide +kernel, rfl⟩
theorem iX3_passOn_119 : Ins mX3_passOn 119 120 1 (.iconst 1) := ⟨by decide +kernel, rfl⟩
theorem iX3_passOn_120 : Ins mX3_passOn 120 122 2 (.iload 4) := ⟨by decide +kernel, rfl⟩
theorem iX3_passOn_122 : Ins mX3_passOn 122 123 1 (.ishl) := ⟨by decide +kernel, rfl⟩
theorem iX3_passOn_123 : Ins mX3_passOn 123 124 1 (.ior) := ⟨by decide +kernel, rfl⟩
theorem iX3_passOn_124 : Ins mX3_passOn 124 125 1 (.istore_n 3) := ⟨by decide +kernel, rfl⟩
theorem iX3_passOn_125 : Ins mX3_passOn 125 128 3 (.iinc 4 1) := ⟨by decide +kernel, rfl⟩
theorem iX3_passOn_128 : InB mX3_passOn 128 131 25 .goto := ⟨by decide +kernel, rfl⟩
theorem iX3_passOn_131 : Ins mX3_passOn 131 132 1 (.iload_n 3) := ⟨by decide +kernel, rfl⟩
theorem iX3_passOn_132 : Ins mX3_passOn 132 133 1 (.ireturn) := ⟨by decide +kernel, rfl⟩
theorem iX3_trace_0 : Ins mX3_trace 0 1 1 (.iconst 0) := ⟨by decide +kernel, rfl⟩
theorem iX3_trace_1 : Ins mX3_trace 1 2 1 (.istore_n 3) := ⟨by decide +kernel, rfl⟩
theorem iX3_trace_2 : Ins mX3_trace 2 3 1 (.iload_n 2) := ⟨by decide +kernel, rfl⟩
theorem iX3_trace_3 : Ins mX3_trace 3 5 2 (.istore 4) := ⟨by decide +kernel, rfl⟩
theorem iX3_trace_5 : Ins mX3_trace 5 6 1 (.iconst 0) := ⟨by decide +kernel, rfl⟩
theorem iX3_trace_6 : Ins mX3_trace 6 8 2 (.istore 5) := ⟨by decide +kernel, rfl⟩
theorem iX3_trace_8 : Ins mX3_trace 8 10 2 (.iload 5) := ⟨by decide +kernel, rfl⟩
theorem iX3_trace_10 : Ins mX3_trace 10 12 2 (.bipush 8) := ⟨by decide +kernel, rfl⟩
theorem iX3_trace_12 : InB mX3_trace 12 15 82 (.if_icmp .ge) := ⟨by decide +kernel, rfl⟩
theorem iX3_trace_15 : Ins mX3_trace 15 16 1 (.aload_n 0) := ⟨by decide +kernel, rfl⟩
theorem iX3_trace_16 : Ins mX3_trace 16 18 2 (.iload 4) := ⟨by decide +kernel, rfl⟩
theorem iX3_trace_18 : Ins mX3_trace 18 21 3 (.invokevirtual 89) := ⟨by decide +kernel, rfl⟩
theorem iX3_trace_21 : InB mX3_trace 21 24 43 (.ifCond .eq) := ⟨by decide +kernel, rfl⟩
theorem iX3_trace_24 : Ins mX3_trace 24 25 1 (.aload_n 0) := ⟨by decide +kernel, rfl⟩
theorem iX3_trace_25 : Ins mX3_trace 25 26 1 (.iload_n 1) := ⟨by decide +kernel, rfl⟩
theorem iX3_trace_26 : Ins mX3_trace 26 28 2 (.iload 4) := ⟨by decide +kernel, rfl⟩
theorem iX3_trace_28 : Ins mX3_trace 28 31 3 (.invokevirtual 74) := ⟨by decide +kernel, rfl⟩
theorem iX3_trace_31 : InB mX3_trace 31 34 43 (.ifCond .eq) := ⟨by decide +kernel, rfl⟩
theorem iX3_trace_34 : Ins mX3_trace 34 35 1 (.iload_n 3) := ⟨by decide +kernel, rfl⟩
theorem iX3_trace_35 : Ins mX3_trace 35 37 2 (.iload 4) := ⟨by decide +kernel, rfl⟩
theorem iX3_trace_37 : Ins mX3_trace 37 38 1 (.ishr) := ⟨by decide +kernel, rfl⟩
theorem iX3_trace_38 : Ins mX3_trace 38 39 1 (.iconst 1) := ⟨by decide +kernel, rfl⟩
theorem iX3_trace_39 : Ins mX3_trace 39 40 1 (.iand) := ⟨by decide +kernel, rfl⟩
theorem iX3_trace_40 : InB mX3_trace 40 43 46 (.ifCond .eq) := ⟨by decide +kernel, rfl⟩
theorem iX3_trace_43 : Ins mX3_trace 43 45 2 (.bipush 8) := ⟨by decide +kernel, rfl⟩
theorem iX3_trace_45 : Ins mX3_trace 45 46 1 (.ireturn) := ⟨by decide +kernel, rfl⟩
theorem iX3_trace_46 : Ins mX3_trace 46 47 1 (.aload_n 0) := ⟨by decide +kernel, rfl⟩
theorem iX3_trace_47 : Ins mX3_trace 47 48 1 (.iload_n 1) := ⟨by decide +kernel, rfl⟩
theorem iX3_trace_48 : Ins mX3_trace 48 50 2 (.iload 4) := ⟨by decide +kernel, rfl⟩
theorem iX3_trace_50 : Ins mX3_trace 50 53 3 (.invokevirtual 93) := ⟨by decide +kernel, rfl⟩
theorem iX3_trace_53 : Ins mX3_trace 53 54 1 (.iconst (-1)) := ⟨by decide +kernel, rfl⟩
theorem iX3_trace_54 : InB mX3_trace 54 57 60 (.if_icmp .ne) := ⟨by decide +kernel, rfl⟩
theorem iX3_trace_57 : Ins mX3_trace 57 59 2 (.iload 4) := ⟨by decide +kernel, rfl⟩
theorem iX3_trace_59 : Ins mX3_trace 59 60 1 (.ireturn) := ⟨by decide +kernel, rfl⟩
theorem iX3_trace_60 : Ins mX3_trace 60 61 1 (.iload_n 3) := ⟨by decide +kernel, rfl⟩
theorem iX3_trace_61 : Ins mX3_trace 61 62 1 (.iconst 1) := ⟨by decide +kernel, rfl⟩
theorem iX3_trace_62 : Ins mX3_trace 62 64 2 (.iload 4) := ⟨by decide +kernel, rfl⟩
theorem iX3_trace_64 : Ins mX3_trace 64 65 1 (.ishl) := ⟨by decide +kernel, rfl⟩
theorem iX3_trace_65 : Ins mX3_trace 65 66 1 (.ior) := ⟨by decide +kernel, rfl⟩
theorem iX3_trace_66 : Ins mX3_trace 66 67 1 (.istore_n 3) := ⟨by decide +kernel, rfl⟩
theorem iX3_trace_67 : Ins mX3_trace 67 68 1 (.aload_n 0) := ⟨by decide +kernel, rfl⟩
theorem iX3_trace_68 : Ins mX3_trace 68 69 1 (.iload_n 1) := ⟨by decide +kernel, rfl⟩
theorem iX3_trace_69 : Ins mX3_trace 69 71 2 (.iload 4) := ⟨by decide +kernel, rfl⟩
theorem iX3_trace_71 : Ins mX3_trace 71 74 3 (.invokevirtual 93) := ⟨by decide +kernel, rfl⟩
theorem iX3_trace_74 : Ins mX3_trace 74 76 2 (.istore 4) := ⟨by decide +kernel, rfl⟩
theorem iX3_trace_76 : Ins mX3_trace 76 79 3 (.iinc 5 1) := ⟨by decide +kernel, rfl⟩
theorem iX3_trace_79 : InB mX3_trace 79 82 8 .goto := ⟨by decide +kernel, rfl⟩
theorem iX3_trace_82 : Ins mX3_trace 82 84 2 (.bipush 8) := ⟨by decide +kernel, rfl⟩
theorem iX3_trace_84 : Ins mX3_trace 84 85 1 (.ireturn) := ⟨by decide +kernel, rfl⟩
theorem iX3_passDays_0 : Ins mX3_passDays 0 1 1 (.iconst 0) := ⟨by decide +kernel, rfl⟩
theorem iX3_passDays_1 : Ins mX3_passDays 1 2 1 (.istore_n 2) := ⟨by decide +kernel, rfl⟩
theorem iX3_passDays_2 : Ins mX3_passDays 2 3 1 (.iload_n 2) := ⟨by decide +kernel, rfl⟩
theorem iX3_passDays_3 : Ins mX3_passDays 3 4 1 (.iload_n 1) := ⟨by decide +kernel, rfl⟩
theorem iX3_passDays_4 : InB mX3_passDays 4 7 17 (.if_icmp .ge) := ⟨by decide +kernel, rfl⟩
theorem iX3_passDays_7 : Ins mX3_passDays 7 8 1 (.aload_n 0) := ⟨by decide +kernel, rfl⟩
theorem iX3_passDays_8 : Ins mX3_passDays 8 11 3 (.invokevirtual 96) := ⟨by decide +kernel, rfl⟩
theorem iX3_passDays_11 : Ins mX3_passDays 11 14 3 (.iinc 2 1) := ⟨by decide +kernel, rfl⟩
theorem iX3_passDays_14 : InB mX3_passDays 14 17 2 .goto := ⟨by decide +kernel, rfl⟩
theorem iX3_passDays_17 : Ins mX3_passDays 17 18 1 (.return_) := ⟨by decide +kernel, rfl⟩
theorem iX3_passDay_0 : Ins mX3_passDay 0 1 1 (.aload_n 0) := ⟨by decide +kernel, rfl⟩
theorem iX3_passDay_1 : Ins mX3_passDay 1 4 3 (.getfield 58) := ⟨by decide +kernel, rfl⟩
theorem iX3_passDay_4 : Ins mX3_passDay 4 6 2 (.bipush 6) := ⟨by decide +kernel, rfl⟩
theorem iX3_passDay_6 : Ins mX3_passDay 6 7 1 (.irem) := ⟨by decide +kernel, rfl⟩
theorem iX3_passDay_7 : Ins mX3_passDay 7 8 1 (.istore_n 1) := ⟨by decide +kernel, rfl⟩
theorem iX3_passDay_8 : Ins mX3_passDay 8 9 1 (.aload_n 0) := ⟨by decide +kernel, rfl⟩
theorem iX3_passDay_9 : Ins mX3_passDay 9 12 3 (.getfield 9) := ⟨by decide +kernel, rfl⟩
theorem iX3_passDay_12 : Ins mX3_passDay 12 13 1 (.iload_n 1) := ⟨by decide +kernel, rfl⟩
theorem iX3_passDay_13 : Ins mX3_passDay 13 14 1 (.iaload) := ⟨by decide +kernel, rfl⟩
theorem iX3_passDay_14 : Ins mX3_passDay 14 16 2 (.bipush 10) := ⟨by decide +kernel, rfl⟩
theorem iX3_passDay_16 : Ins mX3_passDay 16 17 1 (.idiv) := ⟨by decide +kernel, rfl⟩
theorem iX3_passDay_17 : Ins mX3_passDay 17 18 1 (.istore_n 2) := ⟨by decide +kernel, rfl⟩
theorem iX3_passDay_18 : Ins mX3_passDay 18 19 1 (.aload_n 0) := ⟨by decide +kernel, rfl⟩
theorem iX3_passDay_19 : Ins mX3_passDay 19 22 3 (.getfield 9) := ⟨by decide +kernel, rfl⟩
theorem iX3_passDay_22 : Ins mX3_passDay 22 23 1 (.iload_n 1) := ⟨by decide +kernel, rfl⟩
theorem iX3_passDay_23 : Ins mX3_passDay 23 24 1 (.iaload) := ⟨by decide +kernel, rfl⟩
theorem iX3_passDay_24 : Ins mX3_passDay 24 26 2 (.bipush 10) := ⟨by decide +kernel, rfl⟩
theorem iX3_passDay_26 : Ins mX3_passDay 26 27 1 (.irem) := ⟨by decide +kernel, rfl⟩
theorem iX3_passDay_27 : Ins mX3_passDay 27 28 1 (.istore_n 3) := ⟨by decide +kernel, rfl⟩
theorem iX3_passDay_28 : Ins mX3_passDay 28 29 1 (.aload_n 0) := ⟨by decide +kernel, rfl⟩
theorem iX3_passDay_29 : Ins mX3_passDay 29 30 1 (.iload_n 2) := ⟨by decide +kernel, rfl⟩
theorem iX3_passDay_30 : Ins mX3_passDay 30 33 3 (.invokevirtual 89) := ⟨by decide +kernel, rfl⟩
theorem iX3_passDay_33 : InB mX3_passDay 33 36 56 (.ifCond .eq) := ⟨by decide +kernel, rfl⟩
theorem iX3_passDay_36 : Ins mX3_passDay 36 37 1 (.aload_n 0) := ⟨by decide +kernel, rfl⟩
theorem iX3_passDay_37 : Ins mX3_passDay 37 38 1 (.iload_n 3) := ⟨by decide +kernel, rfl⟩
theorem iX3_passDay_38 : Ins mX3_passDay 38 41 3 (.invokevirtual 89) := ⟨by decide +kernel, rfl⟩
theorem iX3_passDay_41 : InB mX3_passDay 41 44 56 (.ifCond .eq) := ⟨by decide +kernel, rfl⟩
theorem iX3_passDay_44 : Ins mX3_passDay 44 45 1 (.iload_n 2) := ⟨by decide +kernel, rfl⟩
theorem iX3_passDay_45 : Ins mX3_passDay 45 46 1 (.iload_n 3) := ⟨by decide +kernel, rfl⟩
theorem iX3_passDay_46 : InB mX3_passDay 46 49 56 (.if_icmp .eq) := ⟨by decide +kernel, rfl⟩
theorem iX3_passDay_49 : Ins mX3_passDay 49 50 1 (.aload_n 0) := ⟨by decide +kernel, rfl⟩
theorem iX3_passDay_50 : Ins mX3_passDay 50 51 1 (.iload_n 2) := ⟨by decide +kernel, rfl⟩
theorem iX3_passDay_51 : Ins mX3_passDay 51 52 1 (.iload_n 3) := ⟨by decide +kernel, rfl⟩
theorem iX3_passDay_52 : Ins mX3_passDay 52 55 3 (.invokevirtual 99) := ⟨by decide +kernel, rfl⟩
theorem iX3_passDay_55 : Ins mX3_passDay 55 56 1 (.pop) := ⟨by decide +kernel, rfl⟩
theorem iX3_passDay_56 : Ins mX3_passDay 56 57 1 (.iload_n 1) := ⟨by decide +kernel, rfl⟩
theorem iX3_passDay_57 : Ins mX3_passDay 57 58 1 (.iconst 5) := ⟨by decide +kernel, rfl⟩
theorem iX3_passDay_58 : InB mX3_passDay 58 61 75 (.if_icmp .ne) := ⟨by decide +kernel, rfl⟩
theorem iX3_passDay_61 : Ins mX3_passDay 61 62 1 (.aload_n 0) := ⟨by decide +kernel, rfl⟩
theorem iX3_passDay_62 : Ins mX3_passDay 62 63 1 (.aload_n 0) := ⟨by decide +kernel, rfl⟩
theorem iX3_passDay_63 : Ins mX3_passDay 63 66 3 (.getfield 58) := ⟨by decide +kernel, rfl⟩
theorem iX3_passDay_66 : Ins mX3_passDay 66 68 2 (.bipush 6) := ⟨by decide +kernel, rfl⟩
theorem iX3_passDay_68 : Ins mX3_passDay 68 69 1 (.idiv) := ⟨by decide +kernel, rfl⟩
theorem iX3_passDay_69 : Ins mX3_passDay 69 71 2 (.bipush 6) := ⟨by decide +kernel, rfl⟩
theorem iX3_passDay_71 : Ins mX3_passDay 71 72 1 (.irem) := ⟨by decide +kernel, rfl⟩
theorem iX3_passDay_72 : Ins mX3_passDay 72 75 3 (.invokevirtual 102) := ⟨by decide +kernel, rfl⟩
theorem iX3_passDay_75 : Ins mX3_passDay 75 76 1 (.aload_n 0) := ⟨by decide +kernel, rfl⟩
theorem iX3_passDay_76 : Ins mX3_passDay 76 77 1 (.aload_n 0) := ⟨by decide +kernel, rfl⟩
theorem iX3_passDay_77 : Ins mX3_passDay 77 80 3 (.getfield 58) := ⟨by decide +kernel, rfl⟩
theorem iX3_passDay_80 : Ins mX3_passDay 80 81 1 (.iconst 1) := ⟨by decide +kernel, rfl⟩
theorem iX3_passDay_81 : Ins mX3_passDay 81 82 1 (.iadd) := ⟨by decide +kernel, rfl⟩
theorem iX3_passDay_82 : Ins mX3_passDay 82 84 2 (.ldc 106) := ⟨by decide +kernel, rfl⟩
theorem iX3_passDay_84 : Ins mX3_passDay 84 87 3 (.invokestatic 107) := ⟨by decide +kernel, rfl⟩
theorem iX3_passDay_87 : Ins mX3_passDay 87 90 3 (.putfield 58) := ⟨by decide +kernel, rfl⟩
theorem iX3_passDay_90 : Ins mX3_passDay 90 91 1 (.return_) := ⟨by decide +kernel, rfl⟩
theorem iX3_holdTrial_0 : Ins mX3_holdTrial 0 1 1 (.aload_n 0) := ⟨by decide +kernel, rfl⟩
theorem iX3_holdTrial_1 : Ins mX3_holdTrial 1 2 1 (.iload_n 1) := ⟨by decide +kernel, rfl⟩
theorem iX3_holdTrial_2 : Ins mX3_holdTrial 2 5 3 (.invokevirtual 112) := ⟨by decide +kernel, rfl⟩
theorem iX3_holdTrial_5 : InB mX3_holdTrial 5 8 17 (.ifCond .eq) := ⟨by decide +kernel, rfl⟩
theorem iX3_holdTrial_8 : Ins mX3_holdTrial 8 9 1 (.aload_n 0) := ⟨by decide +kernel, rfl⟩
theorem iX3_holdTrial_9 : Ins mX3_holdTrial 9 12 3 (.getfield 39) := ⟨by decide +kernel, rfl⟩
theorem iX3_holdTrial_12 : Ins mX3_holdTrial 12 13 1 (.iload_n 1) := ⟨by decide +kernel, rfl⟩
theorem iX3_holdTrial_13 : Ins mX3_holdTrial 13 14 1 (.iaload) := ⟨by decide +kernel, rfl⟩
theorem iX3_holdTrial_14 : InB mX3_holdTrial 14 17 18 (.ifCond .ne) := ⟨by decide +kernel, rfl⟩
theorem iX3_holdTrial_17 : Ins mX3_holdTrial 17 18 1 (.return_) := ⟨by decide +kernel, rfl⟩
theorem iX3_holdTrial_18 : Ins mX3_holdTrial 18 19 1 (.aload_n 0) := ⟨by decide +kernel, rfl⟩
theorem iX3_holdTrial_19 : Ins mX3_holdTrial 19 20 1 (.iload_n 1) := ⟨by decide +kernel, rfl⟩
theorem iX3_holdTrial_20 : Ins mX3_holdTrial 20 21 1 (.aload_n 0) := ⟨by decide +kernel, rfl⟩
theorem iX3_holdTrial_21 : Ins mX3_holdTrial 21 22 1 (.iload_n 1) := ⟨by decide +kernel, rfl⟩
theorem iX3_holdTrial_22 : Ins mX3_holdTrial 22 25 3 (.invokevirtual 115) := ⟨by decide +kernel, rfl⟩
theorem iX3_holdTrial_25 : Ins mX3_holdTrial 25 28 3 (.invokevirtual 119) := ⟨by decide +kernel, rfl⟩
theorem iX3_holdTrial_28 : Ins mX3_holdTrial 28 29 1 (.istore_n 2) := ⟨by decide +kernel, rfl⟩
theorem iX3_holdTrial_29 : Ins mX3_holdTrial 29 30 1 (.iload_n 2) := ⟨by decide +kernel, rfl⟩
theorem iX3_holdTrial_30 : Ins mX3_holdTrial 30 32 2 (.bipush 8) := ⟨by decide +kernel, rfl⟩
theorem iX3_holdTrial_32 : InB mX3_holdTrial 32 35 40 (.if_icmp .ne) := ⟨by decide +kernel, rfl⟩
theorem iX3_holdTrial_35 : Ins mX3_holdTrial 35 36 1 (.aload_n 0) := ⟨by decide +kernel, rfl⟩
theorem iX3_holdTrial_36 : Ins mX3_holdTrial 36 39 3 (.invokevirtual 122) := ⟨by decide +kernel, rfl⟩
theorem iX3_holdTrial_39 : Ins mX3_holdTrial 39 40 1 (.istore_n 2) := ⟨by decide +kernel, rfl⟩
theorem iX3_holdTrial_40 : Ins mX3_holdTrial 40 41 1 (.aload_n 0) := ⟨by decide +kernel, rfl⟩
theorem iX3_holdTrial_41 : Ins mX3_holdTrial 41 42 1 (.iload_n 2) := ⟨by decide +kernel, rfl⟩
theorem iX3_holdTrial_42 : Ins mX3_holdTrial 42 45 3 (.invokevirtual 89) := ⟨by decide +kernel, rfl⟩
theorem iX3_holdTrial_45 : InB mX3_holdTrial 45 48 49 (.ifCond .ne) := ⟨by decide +kernel, rfl⟩
theorem iX3_holdTrial_48 : Ins mX3_holdTrial 48 49 1 (.return_) := ⟨by decide +kernel, rfl⟩
theorem iX3_holdTrial_49 : Ins mX3_holdTrial 49 50 1 (.aload_n 0) := ⟨by decide +kernel, rfl⟩
theorem iX3_holdTrial_50 : Ins mX3_holdTrial 50 53 3 (.getfield 30) := ⟨by decide +kernel, rfl⟩
theorem iX3_holdTrial_53 : Ins mX3_holdTrial 53 54 1 (.iload_n 2) := ⟨by decide +kernel, rfl⟩
theorem iX3_holdTrial_54 : Ins mX3_holdTrial 54 55 1 (.aload_n 0) := ⟨by decide +kernel, rfl⟩
theorem iX3_holdTrial_55 : Ins mX3_holdTrial 55 58 3 (.getfield 30) := ⟨by decide +kernel, rfl⟩
theorem iX3_holdTrial_58 : Ins mX3_holdTrial 58 59 1 (.iload_n 2) := ⟨by decide +kernel, rfl⟩
theorem iX3_holdTrial_59 : Ins mX3_holdTrial 59 60 1 (.iaload) := ⟨by decide +kernel, rfl⟩
theorem iX3_holdTrial_60 : Ins mX3_holdTrial 60 61 1 (.iconst 1) := ⟨by decide +kernel, rfl⟩
theorem iX3_holdTrial_61 : Ins mX3_holdTrial 61 62 1 (.iadd) := ⟨by decide +kernel, rfl⟩
theorem iX3_holdTrial_62 : Ins mX3_holdTrial 62 65 3 (.sipush 9999) := ⟨by decide +kernel, rfl⟩
theorem iX3_holdTrial_65 : Ins mX3_holdTrial 65 68 3 (.invokestatic 107) := ⟨by decide +kernel, rfl⟩
theorem iX3_holdTrial_68 : Ins mX3_holdTrial 68 69 1 (.iastore) := ⟨by decide +kernel, rfl⟩
theorem iX3_holdTrial_69 : Ins mX3_holdTrial 69 70 1 (.aload_n 0) := ⟨by decide +kernel, rfl⟩
theorem iX3_holdTrial_70 : Ins mX3_holdTrial 70 71 1 (.aload_n 0) := ⟨by decide +kernel, rfl⟩
theorem iX3_holdTrial_71 : Ins mX3_holdTrial 71 74 3 (.getfield 55) := ⟨by decide +kernel, rfl⟩
theorem iX3_holdTrial_74 : Ins mX3_holdTrial 74 75 1 (.aload_n 0) := ⟨by decide +kernel, rfl⟩
theorem iX3_holdTrial_75 : Ins mX3_holdTrial 75 76 1 (.iload_n 2) := ⟨by decide +kernel, rfl⟩
theorem iX3_holdTrial_76 : Ins mX3_holdTrial 76 77 1 (.aload_n 0) := ⟨by decide +kernel, rfl⟩
theorem iX3_holdTrial_77 : Ins mX3_holdTrial 77 80 3 (.getfield 36) := ⟨by decide +kernel, rfl⟩
theorem iX3_holdTrial_80 : Ins mX3_holdTrial 80 81 1 (.iload_n 1) := ⟨by decide +kernel, rfl⟩
theorem iX3_holdTrial_81 : Ins mX3_holdTrial 81 82 1 (.iaload) := ⟨by decide +kernel, rfl⟩
theorem iX3_holdTrial_82 : Ins mX3_holdTrial 82 85 3 (.invokevirtual 126) := ⟨by decide +kernel, rfl⟩
theorem iX3_holdTrial_85 : Ins mX3_holdTrial 85 86 1 (.iadd) := ⟨by decide +kernel, rfl⟩
theorem iX3_holdTrial_86 : Ins mX3_holdTrial 86 88 2 (.ldc 106) := ⟨by decide +kernel, rfl⟩
theorem iX3_holdTrial_88 : Ins mX3_holdTrial 88 91 3 (.invokestatic 107) := ⟨by decide +kernel, rfl⟩
theorem iX3_holdTrial_91 : Ins mX3_holdTrial 91 94 3 (.putfield 55) := ⟨by decide +kernel, rfl⟩
theorem iX3_holdTrial_94 : Ins mX3_holdTrial 94 95 1 (.return_) := ⟨by decide +kernel, rfl⟩
theorem iX3_lastHearer_0 : Ins mX3_lastHearer 0 1 1 (.aload_n 0) := ⟨by decide +kernel, rfl⟩
theorem iX3_lastHearer_1 : Ins mX3_lastHearer 1 4 3 (.getfield 48) := ⟨by decide +kernel, rfl⟩
theorem iX3_lastHearer_4 : Ins mX3_lastHearer 4 5 1 (.iconst 1) := ⟨by decide +kernel, rfl⟩
theorem iX3_lastHearer_5 : Ins mX3_lastHearer 5 6 1 (.isub) := ⟨by decide +kernel, rfl⟩
theorem iX3_lastHearer_6 : Ins mX3_lastHearer 6 7 1 (.istore_n 2) := ⟨by decide +kernel, rfl⟩
theorem iX3_lastHearer_7 : Ins mX3_lastHearer 7 8 1 (.iload_n 2) := ⟨by decide +kernel, rfl⟩
theorem iX3_lastHearer_8 : InB mX3_lastHearer 8 11 28 (.ifCond .lt) := ⟨by decide +kernel, rfl⟩
theorem iX3_lastHearer_11 : Ins mX3_lastHearer 11 12 1 (.aload_n 0) := ⟨by decide +kernel, rfl⟩
theorem iX3_lastHearer_12 : Ins mX3_lastHearer 12 13 1 (.iload_n 1) := ⟨by decide +kernel, rfl⟩
theorem iX3_lastHearer_13 : Ins mX3_lastHearer 13 14 1 (.iload_n 2) := ⟨by decide +kernel, rfl⟩
theorem iX3_lastHearer_14 : Ins mX3_lastHearer 14 17 3 (.invokevirtual 74) := ⟨by decide +kernel, rfl⟩
theorem iX3_lastHearer_17 : InB mX3_lastHearer 17 20 22 (.ifCond .eq) := ⟨by decide +kernel, rfl⟩
theorem iX3_lastHearer_20 : Ins mX3_lastHearer 20 21 1 (.iload_n 2) := ⟨by decide +kernel, rfl⟩
theorem iX3_lastHearer_21 : Ins mX3_lastHearer 21 22 1 (.ireturn) := ⟨by decide +kernel, rfl⟩
theorem iX3_lastHearer_22 : Ins mX3_lastHearer 22 25 3 (.iinc 2 (-1)) := ⟨by decide +kernel, rfl⟩
theorem iX3_lastHearer_25 : InB mX3_lastHearer 25 28 7 .goto := ⟨by decide +kernel, rfl⟩
theorem iX3_lastHearer_28 : Ins mX3_lastHearer 28 29 1 (.iconst (-1)) := ⟨by decide +kernel, rfl⟩
theorem iX3_lastHearer_29 : Ins mX3_lastHearer 29 30 1 (.ireturn) := ⟨by decide +kernel, rfl⟩
theorem iX3_mrNobody_0 : Ins mX3_mrNobody 0 1 1 (.iconst 0) := ⟨by decide +kernel, rfl⟩
theorem iX3_mrNobody_1 : Ins mX3_mrNobody 1 2 1 (.istore_n 1) := ⟨by decide +kernel, rfl⟩
theorem iX3_mrNobody_2 : Ins mX3_mrNobody 2 3 1 (.iload_n 1) := ⟨by decide +kernel, rfl⟩
theorem iX3_mrNobody_3 : Ins mX3_mrNobody 3 4 1 (.aload_n 0) := ⟨by decide +kernel, rfl⟩
theorem iX3_mrNobody_4 : Ins mX3_mrNobody 4 7 3 (.getfield 48) := ⟨by decide +kernel, rfl⟩
theorem iX3_mrNobody_7 : InB mX3_mrNobody 7 10 28 (.if_icmp .ge) := ⟨by decide +kernel, rfl⟩
theorem iX3_mrNobody_10 : Ins mX3_mrNobody 10 11 1 (.aload_n 0) := ⟨by decide +kernel, rfl⟩
theorem iX3_mrNobody_11 : Ins mX3_mrNobody 11 14 3 (.getfield 21) := ⟨by decide +kernel, rfl⟩
theorem iX3_mrNobody_14 : Ins mX3_mrNobody 14 15 1 (.iload_n 1) := ⟨by decide +kernel, rfl⟩
theorem iX3_mrNobody_15 : Ins mX3_mrNobody 15 16 1 (.iaload) := ⟨by decide +kernel, rfl⟩
theorem iX3_mrNobody_16 : Ins mX3_mrNobody 16 17 1 (.iconst 4) := ⟨by decide +kernel, rfl⟩
theorem iX3_mrNobody_17 : InB mX3_mrNobody 17 20 22 (.if_icmp .ne) := ⟨by decide +kernel, rfl⟩
theorem iX3_mrNobody_20 : Ins mX3_mrNobody 20 21 1 (.iload_n 1) := ⟨by decide +kernel, rfl⟩
theorem iX3_mrNobody_21 : Ins mX3_mrNobody 21 22 1 (.ireturn) := ⟨by decide +kernel, rfl⟩
theorem iX3_mrNobody_22 : Ins mX3_mrNobody 22 25 3 (.iinc 1 1) := ⟨by decide +kernel, rfl⟩
theorem iX3_mrNobody_25 : InB mX3_mrNobody 25 28 2 .goto := ⟨by decide +kernel, rfl⟩
theorem iX3_mrNobody_28 : Ins mX3_mrNobody 28 29 1 (.iconst (-1)) := ⟨by decide +kernel, rfl⟩
theorem iX3_mrNobody_29 : Ins mX3_mrNobody 29 30 1 (.ireturn) := ⟨by decide +kernel, rfl⟩
theorem iX3_heardBy_0 : Ins mX3_heardBy 0 1 1 (.iconst 0) := ⟨by decide +kernel, rfl⟩
theorem iX3_heardBy_1 : Ins mX3_heardBy 1 2 1 (.istore_n 2) := ⟨by decide +kernel, rfl⟩
theorem iX3_heardBy_2 : Ins mX3_heardBy 2 3 1 (.iconst 0) := ⟨by decide +kernel, rfl⟩
theorem iX3_heardBy_3 : Ins mX3_heardBy 3 4 1 (.istore_n 3) := ⟨by decide +kernel, rfl⟩
theorem iX3_heardBy_4 : Ins mX3_heardBy 4 5 1 (.iload_n 3) := ⟨by decide +kernel, rfl⟩
theorem iX3_heardBy_5 : Ins mX3_heardBy 5 6 1 (.aload_n 0) := ⟨by decide +kernel, rfl⟩
theorem iX3_heardBy_6 : Ins mX3_heardBy 6 9 3 (.getfield 52) := ⟨by decide +kernel, rfl⟩
theorem iX3_heardBy_9 : InB mX3_heardBy 9 12 33 (.if_icmp .ge) := ⟨by decide +kernel, rfl⟩
theorem iX3_heardBy_12 : Ins mX3_heardBy 12 13 1 (.aload_n 0) := ⟨by decide +kernel, rfl⟩
theorem iX3_heardBy_13 : Ins mX3_heardBy 13 14 1 (.iload_n 3) := ⟨by decide +kernel, rfl⟩
theorem iX3_heardBy_14 : Ins mX3_heardBy 14 15 1 (.iload_n 1) := ⟨by decide +kernel, rfl⟩
theorem iX3_heardBy_15 : Ins mX3_heardBy 15 18 3 (.invokevirtual 74) := ⟨by decide +kernel, rfl⟩
theorem iX3_heardBy_18 : InB mX3_heardBy 18 21 27 (.ifCond .eq) := ⟨by decide +kernel, rfl⟩
theorem iX3_heardBy_21 : Ins mX3_heardBy 21 22 1 (.iload_n 2) := ⟨by decide +kernel, rfl⟩
theorem iX3_heardBy_22 : Ins mX3_heardBy 22 23 1 (.iconst 1) := ⟨by decide +kernel, rfl⟩
theorem iX3_heardBy_23 : Ins mX3_heardBy 23 24 1 (.iload_n 3) := ⟨by decide +kernel, rfl⟩
theorem iX3_heardBy_24 : Ins mX3_heardBy 24 25 1 (.ishl) := ⟨by decide +kernel, rfl⟩
theorem iX3_heardBy_25 : Ins mX3_heardBy 25 26 1 (.ior) := ⟨by decide +kernel, rfl⟩
theorem iX3_heardBy_26 : Ins mX3_heardBy 26 27 1 (.istore_n 2) := ⟨by decide +kernel, rfl⟩
theorem iX3_heardBy_27 : Ins mX3_heardBy 27 30 3 (.iinc 3 1) := ⟨by decide +kernel, rfl⟩
theorem iX3_heardBy_30 : InB mX3_heardBy 30 33 4 .goto := ⟨by decide +kernel, rfl⟩
theorem iX3_heardBy_33 : Ins mX3_heardBy 33 34 1 (.iload_n 2) := ⟨by decide +kernel, rfl⟩
theorem iX3_heardBy_34 : Ins mX3_heardBy 34 35 1 (.ireturn) := ⟨by decide +kernel, rfl⟩
theorem iX3_hearings_0 : Ins mX3_hearings 0 1 1 (.iconst 0) := ⟨by decide +kernel, rfl⟩
theorem iX3_hearings_1 : Ins mX3_hearings 1 2 1 (.istore_n 1) := ⟨by decide +kernel, rfl⟩
theorem iX3_hearings_2 : Ins mX3_hearings 2 3 1 (.iconst 0) := ⟨by decide +kernel, rfl⟩
theorem iX3_hearings_3 : Ins mX3_hearings 3 4 1 (.istore_n 2) := ⟨by decide +kernel, rfl⟩
theorem iX3_hearings_4 : Ins mX3_hearings 4 5 1 (.iload_n 2) := ⟨by decide +kernel, rfl⟩
theorem iX3_hearings_5 : Ins mX3_hearings 5 6 1 (.aload_n 0) := ⟨by decide +kernel, rfl⟩
theorem iX3_hearings_6 : Ins mX3_hearings 6 9 3 (.getfield 52) := ⟨by decide +kernel, rfl⟩
theorem iX3_hearings_9 : InB mX3_hearings 9 12 30 (.if_icmp .ge) := ⟨by decide +kernel, rfl⟩
theorem iX3_hearings_12 : Ins mX3_hearings 12 13 1 (.iload_n 1) := ⟨by decide +kernel, rfl⟩
theorem iX3_hearings_13 : Ins mX3_hearings 13 14 1 (.aload_n 0) := ⟨by decide +kernel, rfl⟩
theorem iX3_hearings_14 : Ins mX3_hearings 14 17 3 (.getfield 39) := ⟨by decide +kernel, rfl⟩
theorem iX3_hearings_17 : Ins mX3_hearings 17 18 1 (.iload_n 2) := ⟨by decide +kernel, rfl⟩
theorem iX3_hearings_18 : Ins mX3_hearings 18 19 1 (.iaload) := ⟨by decide +kernel, rfl⟩
theorem iX3_hearings_19 : Ins mX3_hearings 19 22 3 (.invokestatic 129) := ⟨by decide +kernel, rfl⟩
theorem iX3_hearings_22 : Ins mX3_hearings 22 23 1 (.iadd) := ⟨by decide +kernel, rfl⟩
theorem iX3_hearings_23 : Ins mX3_hearings 23 24 1 (.istore_n 1) := ⟨by decide +kernel, rfl⟩
theorem iX3_hearings_24 : Ins mX3_hearings 24 27 3 (.iinc 2 1) := ⟨by decide +kernel, rfl⟩
theorem iX3_hearings_27 : InB mX3_hearings 27 30 4 .goto := ⟨by decide +kernel, rfl⟩
theorem iX3_hearings_30 : Ins mX3_hearings 30 31 1 (.iload_n 1) := ⟨by decide +kernel, rfl⟩
theorem iX3_hearings_31 : Ins mX3_hearings 31 32 1 (.ireturn) := ⟨by decide +kernel, rfl⟩
theorem iX3_knownToAll_0 : Ins mX3_knownToAll 0 1 1 (.iconst 0) := ⟨by decide +kernel, rfl⟩
theorem iX3_knownToAll_1 : Ins mX3_knownToAll 1 2 1 (.istore_n 1) := ⟨by decide +kernel, rfl⟩
theorem iX3_knownToAll_2 : Ins mX3_knownToAll 2 3 1 (.iconst 0) := ⟨by decide +kernel, rfl⟩
theorem iX3_knownToAll_3 : Ins mX3_knownToAll 3 4 1 (.istore_n 2) := ⟨by decide +kernel, rfl⟩
theorem iX3_knownToAll_4 : Ins mX3_knownToAll 4 5 1 (.iload_n 2) := ⟨by decide +kernel, rfl⟩
theorem iX3_knownToAll_5 : Ins mX3_knownToAll 5 6 1 (.aload_n 0) := ⟨by decide +kernel, rfl⟩
theorem iX3_knownToAll_6 : Ins mX3_knownToAll 6 9 3 (.getfield 52) := ⟨by decide +kernel, rfl⟩
theorem iX3_knownToAll_9 : InB mX3_knownToAll 9 12 37 (.if_icmp .ge) := ⟨by decide +kernel, rfl⟩
theorem iX3_knownToAll_12 : Ins mX3_knownToAll 12 13 1 (.aload_n 0) := ⟨by decide +kernel, rfl⟩
theorem iX3_knownToAll_13 : Ins mX3_knownToAll 13 16 3 (.getfield 39) := ⟨by decide +kernel, rfl⟩
theorem iX3_knownToAll_16 : Ins mX3_knownToAll 16 17 1 (.iload_n 2) := ⟨by decide +kernel, rfl⟩
theorem iX3_knownToAll_17 : Ins mX3_knownToAll 17 18 1 (.iaload) := ⟨by decide +kernel, rfl⟩
theorem iX3_knownToAll_18 : Ins mX3_knownToAll 18 19 1 (.aload_n 0) := ⟨by decide +kernel, rfl⟩
theorem iX3_knownToAll_19 : Ins mX3_knownToAll 19 22 3 (.invokevirtual 134) := ⟨by decide +kernel, rfl⟩
theorem iX3_knownToAll_22 : InB mX3_knownToAll 22 25 31 (.if_icmp .ne) := ⟨by decide +kernel, rfl⟩
theorem iX3_knownToAll_25 : Ins mX3_knownToAll 25 26 1 (.iload_n 1) := ⟨by decide +kernel, rfl⟩
theorem iX3_knownToAll_26 : Ins mX3_knownToAll 26 27 1 (.iconst 1) := ⟨by decide +kernel, rfl⟩
theorem iX3_knownToAll_27 : Ins mX3_knownToAll 27 28 1 (.iload_n 2) := ⟨by decide +kernel, rfl⟩
theorem iX3_knownToAll_28 : Ins mX3_knownToAll 28 29 1 (.ishl) := ⟨by decide +kernel, rfl⟩
theorem iX3_knownToAll_29 : Ins mX3_knownToAll 29 30 1 (.ior) := ⟨by decide +kernel, rfl⟩
theorem iX3_knownToAll_30 : Ins mX3_knownToAll 30 31 1 (.istore_n 1) := ⟨by decide +kernel, rfl⟩
theorem iX3_knownToAll_31 : Ins mX3_knownToAll 31 34 3 (.iinc 2 1) := ⟨by decide +kernel, rfl⟩
theorem iX3_knownToAll_34 : InB mX3_knownToAll 34 37 4 .goto := ⟨by decide +kernel, rfl⟩
theorem iX3_knownToAll_37 : Ins mX3_knownToAll 37 38 1 (.iload_n 1) := ⟨by decide +kernel, rfl⟩
theorem iX3_knownToAll_38 : Ins mX3_knownToAll 38 39 1 (.ireturn) := ⟨by decide +kernel, rfl⟩
theorem iX3_blames_0 : Ins mX3_blames 0 1 1 (.iconst 0) := ⟨by decide +kernel, rfl⟩
theorem iX3_blames_1 : Ins mX3_blames 1 2 1 (.istore_n 1) := ⟨by decide +kernel, rfl⟩
theorem iX3_blames_2 : Ins mX3_blames 2 3 1 (.iconst 0) := ⟨by decide +kernel, rfl⟩
theorem iX3_blames_3 : Ins mX3_blames 3 4 1 (.istore_n 2) := ⟨by decide +kernel, rfl⟩
theorem iX3_blames_4 : Ins mX3_blames 4 5 1 (.iload_n 2) := ⟨by decide +kernel, rfl⟩
theorem iX3_blames_5 : Ins mX3_blames 5 6 1 (.aload_n 0) := ⟨by decide +kernel, rfl⟩
theorem iX3_blames_6 : Ins mX3_blames 6 9 3 (.getfield 48) := ⟨by decide +kernel, rfl⟩
theorem iX3_blames_9 : InB mX3_blames 9 12 27 (.if_icmp .ge) := ⟨by decide +kernel, rfl⟩
theorem iX3_blames_12 : Ins mX3_blames 12 13 1 (.iload_n 1) := ⟨by decide +kernel, rfl⟩
theorem iX3_blames_13 : Ins mX3_blames 13 14 1 (.aload_n 0) := ⟨by decide +kernel, rfl⟩
theorem iX3_blames_14 : Ins mX3_blames 14 17 3 (.getfield 30) := ⟨by decide +kernel, rfl⟩
theorem iX3_blames_17 : Ins mX3_blames 17 18 1 (.iload_n 2) := ⟨by decide +kernel, rfl⟩
theorem iX3_blames_18 : Ins mX3_blames 18 19 1 (.iaload) := ⟨by decide +kernel, rfl⟩
theorem iX3_blames_19 : Ins mX3_blames 19 20 1 (.iadd) := ⟨by decide +kernel, rfl⟩
theorem iX3_blames_20 : Ins mX3_blames 20 21 1 (.istore_n 1) := ⟨by decide +kernel, rfl⟩
theorem iX3_blames_21 : Ins mX3_blames 21 24 3 (.iinc 2 1) := ⟨by decide +kernel, rfl⟩
theorem iX3_blames_24 : InB mX3_blames 24 27 4 .goto := ⟨by decide +kernel, rfl⟩
theorem iX3_blames_27 : Ins mX3_blames 27 28 1 (.iload_n 1) := ⟨by decide +kernel, rfl⟩
theorem iX3_blames_28 : Ins mX3_blames 28 29 1 (.ireturn) := ⟨by decide +kernel, rfl⟩
theorem iX3_mostBlamed_0 : Ins mX3_mostBlamed 0 1 1 (.iconst (-1)) := ⟨by decide +kernel, rfl⟩
theorem iX3_mostBlamed_1 : Ins mX3_mostBlamed 1 2 1 (.istore_n 1) := ⟨by decide +kernel, rfl⟩
theorem iX3_mostBlamed_2 : Ins mX3_mostBlamed 2 3 1 (.iconst (-1)) := ⟨by decide +kernel, rfl⟩
theorem iX3_mostBlamed_3 : Ins mX3_mostBlamed 3 4 1 (.istore_n 2) := ⟨by decide +kernel, rfl⟩
theorem iX3_mostBlamed_4 : Ins mX3_mostBlamed 4 5 1 (.iconst 0) := ⟨by decide +kernel, rfl⟩
theorem iX3_mostBlamed_5 : Ins mX3_mostBlamed 5 6 1 (.istore_n 3) := ⟨by decide +kernel, rfl⟩
theorem iX3_mostBlamed_6 : Ins mX3_mostBlamed 6 7 1 (.iload_n 3) := ⟨by decide +kernel, rfl⟩
theorem iX3_mostBlamed_7 : Ins mX3_mostBlamed 7 8 1 (.aload_n 0) := ⟨by decide +kernel, rfl⟩
theorem iX3_mostBlamed_8 : Ins mX3_mostBlamed 8 11 3 (.getfield 48) := ⟨by decide +kernel, rfl⟩
theorem iX3_mostBlamed_11 : InB mX3_mostBlamed 11 14 39 (.if_icmp .ge) := ⟨by decide +kernel, rfl⟩
theorem iX3_mostBlamed_14 : Ins mX3_mostBlamed 14 15 1 (.aload_n 0) := ⟨by decide +kernel, rfl⟩
theorem iX3_mostBlamed_15 : Ins mX3_mostBlamed 15 18 3 (.getfield 30) := ⟨by decide +kernel, rfl⟩
theorem iX3_mostBlamed_18 : Ins mX3_mostBlamed 18 19 1 (.iload_n 3) := ⟨by decide +kernel, rfl⟩
theorem iX3_mostBlamed_19 : Ins mX3_mostBlamed 19 20 1 (.iaload) := ⟨by decide +kernel, rfl⟩
theorem iX3_mostBlamed_20 : Ins mX3_mostBlamed 20 21 1 (.iload_n 2) := ⟨by decide +kernel, rfl⟩
theorem iX3_mostBlamed_21 : InB mX3_mostBlamed 21 24 33 (.if_icmp .le) := ⟨by decide +kernel, rfl⟩
theorem iX3_mostBlamed_24 : Ins mX3_mostBlamed 24 25 1 (.aload_n 0) := ⟨by decide +kernel, rfl⟩
theorem iX3_mostBlamed_25 : Ins mX3_mostBlamed 25 28 3 (.getfield 30) := ⟨by decide +kernel, rfl⟩
theorem iX3_mostBlamed_28 : Ins mX3_mostBlamed 28 29 1 (.iload_n 3) := ⟨by decide +kernel, rfl⟩
theorem iX3_mostBlamed_29 : Ins mX3_mostBlamed 29 30 1 (.iaload) := ⟨by decide +kernel, rfl⟩
theorem iX3_mostBlamed_30 : Ins mX3_mostBlamed 30 31 1 (.istore_n 2) := ⟨by decide +kernel, rfl⟩
theorem iX3_mostBlamed_31 : Ins mX3_mostBlamed 31 32 1 (.iload_n 3) := ⟨by decide +kernel, rfl⟩
theorem iX3_mostBlamed_32 : Ins mX3_mostBlamed 32 33 1 (.istore_n 1) := ⟨by decide +kernel, rfl⟩
theorem iX3_mostBlamed_33 : Ins mX3_mostBlamed 33 36 3 (.iinc 3 1) := ⟨by decide +kernel, rfl⟩
theorem iX3_mostBlamed_36 : InB mX3_mostBlamed 36 39 6 .goto := ⟨by decide +kernel, rfl⟩
theorem iX3_mostBlamed_39 : Ins mX3_mostBlamed 39 40 1 (.iload_n 1) := ⟨by decide +kernel, rfl⟩
theorem iX3_mostBlamed_40 : Ins mX3_mostBlamed 40 41 1 (.ireturn) := ⟨by decide +kernel, rfl⟩
theorem iX3_innocent_0 : Ins mX3_innocent 0 1 1 (.iconst 0) := ⟨by decide +kernel, rfl⟩
theorem iX3_innocent_1 : Ins mX3_innocent 1 2 1 (.istore_n 1) := ⟨by decide +kernel, rfl⟩
theorem iX3_innocent_2 : Ins mX3_innocent 2 3 1 (.iconst 0) := ⟨by decide +kernel, rfl⟩
theorem iX3_innocent_3 : Ins mX3_innocent 3 4 1 (.istore_n 2) := ⟨by decide +kernel, rfl⟩
theorem iX3_innocent_4 : Ins mX3_innocent 4 5 1 (.iload_n 2) := ⟨by decide +kernel, rfl⟩
theorem iX3_innocent_5 : Ins mX3_innocent 5 6 1 (.aload_n 0) := ⟨by decide +kernel, rfl⟩
theorem iX3_innocent_6 : Ins mX3_innocent 6 9 3 (.getfield 48) := ⟨by decide +kernel, rfl⟩
theorem iX3_innocent_9 : InB mX3_innocent 9 12 32 (.if_icmp .ge) := ⟨by decide +kernel, rfl⟩
theorem iX3_innocent_12 : Ins mX3_innocent 12 13 1 (.aload_n 0) := ⟨by decide +kernel, rfl⟩
theorem iX3_innocent_13 : Ins mX3_innocent 13 14 1 (.iload_n 2) := ⟨by decide +kernel, rfl⟩
theorem iX3_innocent_14 : Ins mX3_innocent 14 17 3 (.invokevirtual 137) := ⟨by decide +kernel, rfl⟩
theorem iX3_innocent_17 : InB mX3_innocent 17 20 26 (.ifCond .ne) := ⟨by decide +kernel, rfl⟩
theorem iX3_innocent_20 : Ins mX3_innocent 20 21 1 (.iload_n 1) := ⟨by decide +kernel, rfl⟩
theorem iX3_innocent_21 : Ins mX3_innocent 21 22 1 (.iconst 1) := ⟨by decide +kernel, rfl⟩
theorem iX3_innocent_22 : Ins mX3_innocent 22 23 1 (.iload_n 2) := ⟨by decide +kernel, rfl⟩
theorem iX3_innocent_23 : Ins mX3_innocent 23 24 1 (.ishl) := ⟨by decide +kernel, rfl⟩
theorem iX3_innocent_24 : Ins mX3_innocent 24 25 1 (.ior) := ⟨by decide +kernel, rfl⟩
theorem iX3_innocent_25 : Ins mX3_innocent 25 26 1 (.istore_n 1) := ⟨by decide +kernel, rfl⟩
theorem iX3_innocent_26 : Ins mX3_innocent 26 29 3 (.iinc 2 1) := ⟨by decide +kernel, rfl⟩
theorem iX3_innocent_29 : InB mX3_innocent 29 32 4 .goto := ⟨by decide +kernel, rfl⟩
theorem iX3_innocent_32 : Ins mX3_innocent 32 33 1 (.iload_n 1) := ⟨by decide +kernel, rfl⟩
theorem iX3_innocent_33 : Ins mX3_innocent 33 34 1 (.ireturn) := ⟨by decide +kernel, rfl⟩
theorem iX3_untraceable_0 : Ins mX3_untraceable 0 1 1 (.iconst 0) := ⟨by decide +kernel, rfl⟩
theorem iX3_untraceable_1 : Ins mX3_untraceable 1 2 1 (.istore_n 1) := ⟨by decide +kernel, rfl⟩
theorem iX3_untraceable_2 : Ins mX3_untraceable 2 3 1 (.iconst 0) := ⟨by decide +kernel, rfl⟩
theorem iX3_untraceable_3 : Ins mX3_untraceable 3 4 1 (.istore_n 2) := ⟨by decide +kernel, rfl⟩
theorem iX3_untraceable_4 : Ins mX3_untraceable 4 5 1 (.iload_n 2) := ⟨by decide +kernel, rfl⟩
theorem iX3_untraceable_5 : Ins mX3_untraceable 5 6 1 (.aload_n 0) := ⟨by decide +kernel, rfl⟩
theorem iX3_untraceable_6 : Ins mX3_untraceable 6 9 3 (.getfield 52) := ⟨by decide +kernel, rfl⟩
theorem iX3_untraceable_9 : InB mX3_untraceable 9 12 48 (.if_icmp .ge) := ⟨by decide +kernel, rfl⟩
theorem iX3_untraceable_12 : Ins mX3_untraceable 12 13 1 (.aload_n 0) := ⟨by decide +kernel, rfl⟩
theorem iX3_untraceable_13 : Ins mX3_untraceable 13 16 3 (.getfield 39) := ⟨by decide +kernel, rfl⟩
theorem iX3_untraceable_16 : Ins mX3_untraceable 16 17 1 (.iload_n 2) := ⟨by decide +kernel, rfl⟩
theorem iX3_untraceable_17 : Ins mX3_untraceable 17 18 1 (.iaload) := ⟨by decide +kernel, rfl⟩
theorem iX3_untraceable_18 : InB mX3_untraceable 18 21 42 (.ifCond .eq) := ⟨by decide +kernel, rfl⟩
theorem iX3_untraceable_21 : Ins mX3_untraceable 21 22 1 (.aload_n 0) := ⟨by decide +kernel, rfl⟩
theorem iX3_untraceable_22 : Ins mX3_untraceable 22 23 1 (.iload_n 2) := ⟨by decide +kernel, rfl⟩
theorem iX3_untraceable_23 : Ins mX3_untraceable 23 24 1 (.aload_n 0) := ⟨by decide +kernel, rfl⟩
theorem iX3_untraceable_24 : Ins mX3_untraceable 24 25 1 (.iload_n 2) := ⟨by decide +kernel, rfl⟩
theorem iX3_untraceable_25 : Ins mX3_untraceable 25 28 3 (.invokevirtual 115) := ⟨by decide +kernel, rfl⟩
theorem iX3_untraceable_28 : Ins mX3_untraceable 28 31 3 (.invokevirtual 119) := ⟨by decide +kernel, rfl⟩
theorem iX3_untraceable_31 : Ins mX3_untraceable 31 33 2 (.bipush 8) := ⟨by decide +kernel, rfl⟩
theorem iX3_untraceable_33 : InB mX3_untraceable 33 36 42 (.if_icmp .ne) := ⟨by decide +kernel, rfl⟩
theorem iX3_untraceable_36 : Ins mX3_untraceable 36 37 1 (.iload_n 1) := ⟨by decide +kernel, rfl⟩
theorem iX3_untraceable_37 : Ins mX3_untraceable 37 38 1 (.iconst 1) := ⟨by decide +kernel, rfl⟩
theorem iX3_untraceable_38 : Ins mX3_untraceable 38 39 1 (.iload_n 2) := ⟨by decide +kernel, rfl⟩
theorem iX3_untraceable_39 : Ins mX3_untraceable 39 40 1 (.ishl) := ⟨by decide +kernel, rfl⟩
theorem iX3_untraceable_40 : Ins mX3_untraceable 40 41 1 (.ior) := ⟨by decide +kernel, rfl⟩
theorem iX3_untraceable_41 : Ins mX3_untraceable 41 42 1 (.istore_n 1) := ⟨by decide +kernel, rfl⟩
theorem iX3_untraceable_42 : Ins mX3_untraceable 42 45 3 (.iinc 2 1) := ⟨by decide +kernel, rfl⟩
theorem iX3_untraceable_45 : InB mX3_untraceable 45 48 4 .goto := ⟨by decide +kernel, rfl⟩
theorem iX3_untraceable_48 : Ins mX3_untraceable 48 49 1 (.iload_n 1) := ⟨by decide +kernel, rfl⟩
theorem iX3_untraceable_49 : Ins mX3_untraceable 49 50 1 (.ireturn) := ⟨by decide +kernel, rfl⟩
theorem iX3_draw_0 : Ins mX3_draw 0 1 1 (.aload_n 0) := ⟨by decide +kernel, rfl⟩
theorem iX3_draw_1 : Ins mX3_draw 1 2 1 (.aload_n 0) := ⟨by decide +kernel, rfl⟩
theorem iX3_draw_2 : Ins mX3_draw 2 5 3 (.getfield 61) := ⟨by decide +kernel, rfl⟩
theorem iX3_draw_5 : Ins mX3_draw 5 7 2 (.ldc 140) := ⟨by decide +kernel, rfl⟩
theorem iX3_draw_7 : Ins mX3_draw 7 8 1 (.imul) := ⟨by decide +kernel, rfl⟩
theorem iX3_draw_8 : Ins mX3_draw 8 11 3 (.sipush 12345) := ⟨by decide +kernel, rfl⟩
theorem iX3_draw_11 : Ins mX3_draw 11 12 1 (.iadd) := ⟨by decide +kernel, rfl⟩
theorem iX3_draw_12 : Ins mX3_draw 12 15 3 (.putfield 61) := ⟨by decide +kernel, rfl⟩
theorem iX3_draw_15 : Ins mX3_draw 15 16 1 (.aload_n 0) := ⟨by decide +kernel, rfl⟩
theorem iX3_draw_16 : Ins mX3_draw 16 19 3 (.getfield 61) := ⟨by decide +kernel, rfl⟩
theorem iX3_draw_19 : Ins mX3_draw 19 21 2 (.bipush 8) := ⟨by decide +kernel, rfl⟩
theorem iX3_draw_21 : Ins mX3_draw 21 22 1 (.iushr) := ⟨by decide +kernel, rfl⟩
theorem iX3_draw_22 : Ins mX3_draw 22 23 1 (.ireturn) := ⟨by decide +kernel, rfl⟩
theorem iX3_spotsHeld_0 : Ins mX3_spotsHeld 0 1 1 (.iconst 0) := ⟨by decide +kernel, rfl⟩
theorem iX3_spotsHeld_1 : Ins mX3_spotsHeld 1 2 1 (.istore_n 1) := ⟨by decide +kernel, rfl⟩
theorem iX3_spotsHeld_2 : Ins mX3_spotsHeld 2 3 1 (.iconst 0) := ⟨by decide +kernel, rfl⟩
theorem iX3_spotsHeld_3 : Ins mX3_spotsHeld 3 4 1 (.istore_n 2) := ⟨by decide +kernel, rfl⟩
theorem iX3_spotsHeld_4 : Ins mX3_spotsHeld 4 5 1 (.iload_n 2) := ⟨by decide +kernel, rfl⟩
theorem iX3_spotsHeld_5 : Ins mX3_spotsHeld 5 7 2 (.bipush 10) := ⟨by decide +kernel, rfl⟩
theorem iX3_spotsHeld_7 : InB mX3_spotsHeld 7 10 29 (.if_icmp .ge) := ⟨by decide +kernel, rfl⟩
theorem iX3_spotsHeld_10 : Ins mX3_spotsHeld 10 11 1 (.aload_n 0) := ⟨by decide +kernel, rfl⟩
theorem iX3_spotsHeld_11 : Ins mX3_spotsHeld 11 14 3 (.getfield 45) := ⟨by decide +kernel, rfl⟩
theorem iX3_spotsHeld_14 : Ins mX3_spotsHeld 14 15 1 (.iload_n 2) := ⟨by decide +kernel, rfl⟩
theorem iX3_spotsHeld_15 : Ins mX3_spotsHeld 15 16 1 (.iaload) := ⟨by decide +kernel, rfl⟩
theorem iX3_spotsHeld_16 : Ins mX3_spotsHeld 16 17 1 (.iconst (-1)) := ⟨by decide +kernel, rfl⟩
theorem iX3_spotsHeld_17 : InB mX3_spotsHeld 17 20 23 (.if_icmp .eq) := ⟨by decide +kernel, rfl⟩
theorem iX3_spotsHeld_20 : Ins mX3_spotsHeld 20 23 3 (.iinc 1 1) := ⟨by decide +kernel, rfl⟩
theorem iX3_spotsHeld_23 : Ins mX3_spotsHeld 23 26 3 (.iinc 2 1) := ⟨by decide +kernel, rfl⟩
theorem iX3_spotsHeld_26 : InB mX3_spotsHeld 26 29 4 .goto := ⟨by decide +kernel, rfl⟩
theorem iX3_spotsHeld_29 : Ins mX3_spotsHeld 29 30 1 (.iload_n 1) := ⟨by decide +kernel, rfl⟩
theorem iX3_spotsHeld_30 : Ins mX3_spotsHeld 30 31 1 (.ireturn) := ⟨by decide +kernel, rfl⟩
end
section
theorem iX4_list_0 : Ins mX4_list 0 1 1 (.iload_n 1) := ⟨by decide +kernel, rfl⟩
theorem iX4_list_1 : Ins mX4_list 1 2 1 (.iconst 5) := ⟨by decide +kernel, rfl⟩
theorem iX4_list_2 : Ins mX4_list 2 5 3 (.invokestatic 44) := ⟨by decide +kernel, rfl⟩
theorem iX4_list_5 : InB mX4_list 5 8 26 (.ifCond .eq) := ⟨by decide +kernel, rfl⟩
theorem iX4_list_8 : Ins mX4_list 8 9 1 (.iload_n 2) := ⟨by decide +kernel, rfl⟩
theorem iX4_list_9 : Ins mX4_list 9 11 2 (.bipush 7) := ⟨by decide +kernel, rfl⟩
theorem iX4_list_11 : Ins mX4_list 11 14 3 (.invokestatic 44) := ⟨by decide +kernel, rfl⟩
theorem iX4_list_14 : InB mX4_list 14 17 26 (.ifCond .eq) := ⟨by decide +kernel, rfl⟩
theorem iX4_list_17 : Ins mX4_list 17 18 1 (.iload_n 3) := ⟨by decide +kernel, rfl⟩
theorem iX4_list_18 : Ins mX4_list 18 20 2 (.bipush 7) := ⟨by decide +kernel, rfl⟩
theorem iX4_list_20 : Ins mX4_list 20 23 3 (.invokestatic 44) := ⟨by decide +kernel, rfl⟩
theorem iX4_list_23 : InB mX4_list 23 26 32 (.ifCond .ne) := ⟨by decide +kernel, rfl⟩
theorem iX4_list_26 : Ins mX4_list 26 27 1 (.aload_n 0) := ⟨by decide +kernel, rfl⟩
theorem iX4_list_27 : Ins mX4_list 27 28 1 (.iconst 0) := ⟨by decide +kernel, rfl⟩
theorem iX4_list_28 : Ins mX4_list 28 31 3 (.invokevirtual 48) := ⟨by decide +kernel, rfl⟩
theorem iX4_list_31 : Ins mX4_list 31 32 1 (.ireturn) := ⟨by decide +kernel, rfl⟩
theorem iX4_list_32 : Ins mX4_list 32 33 1 (.aload_n 0) := ⟨by decide +kernel, rfl⟩
theorem iX4_list_33 : Ins mX4_list 33 36 3 (.getfield 10) := ⟨by decide +kernel, rfl⟩
theorem iX4_list_36 : Ins mX4_list 36 39 3 (.getfield 52) := ⟨by decide +kernel, rfl⟩
theorem iX4_list_39 : Ins mX4_list 39 40 1 (.iload_n 1) := ⟨by decide +kernel, rfl⟩
theorem iX4_list_40 : Ins mX4_list 40 41 1 (.iaload) := ⟨by decide +kernel, rfl⟩
theorem iX4_list_41 : Ins mX4_list 41 43 2 (.istore 4) := ⟨by decide +kernel, rfl⟩
theorem iX4_list_43 : Ins mX4_list 43 44 1 (.aload_n 0) := ⟨by decide +kernel, rfl⟩
theorem iX4_list_44 : Ins mX4_list 44 47 3 (.getfield 10) := ⟨by decide +kernel, rfl⟩
theorem iX4_list_47 : Ins mX4_list 47 50 3 (.getfield 52) := ⟨by decide +kernel, rfl⟩
theorem iX4_list_50 : Ins mX4_list 50 51 1 (.iload_n 1) := ⟨by decide +kernel, rfl⟩
theorem iX4_list_51 : Ins mX4_list 51 53 2 (.bipush 10) := ⟨by decide +kernel, rfl⟩
theorem iX4_list_53 : Ins mX4_list 53 54 1 (.iload_n 2) := ⟨by decide +kernel, rfl⟩
theorem iX4_list_54 : Ins mX4_list 54 55 1 (.imul) := ⟨by decide +kernel, rfl⟩
theorem iX4_list_55 : Ins mX4_list 55 56 1 (.iload_n 3) := ⟨by decide +kernel, rfl⟩
theorem iX4_list_56 : Ins mX4_list 56 57 1 (.iadd) := ⟨by decide +kernel, rfl⟩
theorem iX4_list_57 : Ins mX4_list 57 58 1 (.iastore) := ⟨by decide +kernel, rfl⟩
theorem iX4_list_58 : Ins mX4_list 58 60 2 (.iload 4) := ⟨by decide +kernel, rfl⟩
theorem iX4_list_60 : Ins mX4_list 60 61 1 (.ireturn) := ⟨by decide +kernel, rfl⟩
theorem iX4_listed_0 : Ins mX4_listed 0 1 1 (.iload_n 1) := ⟨by decide +kernel, rfl⟩
theorem iX4_listed_1 : Ins mX4_listed 1 2 1 (.iconst 5) := ⟨by decide +kernel, rfl⟩
theorem iX4_listed_2 : Ins mX4_listed 2 5 3 (.invokestatic 44) := ⟨by decide +kernel, rfl⟩
theorem iX4_listed_5 : InB mX4_listed 5 8 20 (.ifCond .eq) := ⟨by decide +kernel, rfl⟩
theorem iX4_listed_8 : Ins mX4_listed 8 9 1 (.aload_n 0) := ⟨by decide +kernel, rfl⟩
theorem iX4_listed_9 : Ins mX4_listed 9 12 3 (.getfield 10) := ⟨by decide +kernel, rfl⟩
theorem iX4_listed_12 : Ins mX4_listed 12 15 3 (.getfield 52) := ⟨by decide +kernel, rfl⟩
theorem iX4_listed_15 : Ins mX4_listed 15 16 1 (.iload_n 1) := ⟨by decide +kernel, rfl⟩
theorem iX4_listed_16 : Ins mX4_listed 16 17 1 (.iaload) := ⟨by decide +kernel, rfl⟩
theorem iX4_listed_17 : InB mX4_listed 17 20 25 .goto := ⟨by decide +kernel, rfl⟩
theorem iX4_listed_20 : Ins mX4_listed 20 21 1 (.aload_n 0) := ⟨by decide +kernel, rfl⟩
theorem iX4_listed_21 : Ins mX4_listed 21 22 1 (.iconst 0) := ⟨by decide +kernel, rfl⟩
theorem iX4_listed_22 : Ins mX4_listed 22 25 3 (.invokevirtual 48) := ⟨by decide +kernel, rfl⟩
theorem iX4_listed_25 : Ins mX4_listed 25 26 1 (.ireturn) := ⟨by decide +kernel, rfl⟩
theorem iX4_person_0 : Ins mX4_person 0 1 1 (.iload_n 1) := ⟨by decide +kernel, rfl⟩
theorem iX4_person_1 : Ins mX4_person 1 3 2 (.bipush 6) := ⟨by decide +kernel, rfl⟩
theorem iX4_person_3 : Ins mX4_person 3 6 3 (.invokestatic 44) := ⟨by decide +kernel, rfl⟩
theorem iX4_person_6 : InB mX4_person 6 9 18 (.ifCond .eq) := ⟨by decide +kernel, rfl⟩
theorem iX4_person_9 : Ins mX4_person 9 10 1 (.iload_n 2) := ⟨by decide +kernel, rfl⟩
theorem iX4_person_10 : Ins mX4_person 10 12 2 (.bipush 9) := ⟨by decide +kernel, rfl⟩
theorem iX4_person_12 : Ins mX4_person 12 15 3 (.invokestatic 44) := ⟨by decide +kernel, rfl⟩
theorem iX4_person_15 : InB mX4_person 15 18 24 (.ifCond .ne) := ⟨by decide +kernel, rfl⟩
theorem iX4_person_18 : Ins mX4_person 18 19 1 (.aload_n 0) := ⟨by decide +kernel, rfl⟩
theorem iX4_person_19 : Ins mX4_person 19 20 1 (.iconst 0) := ⟨by decide +kernel, rfl⟩
theorem iX4_person_20 : Ins mX4_person 20 23 3 (.invokevirtual 48) := ⟨by decide +kernel, rfl⟩
theorem iX4_person_23 : Ins mX4_person 23 24 1 (.ireturn) := ⟨by decide +kernel, rfl⟩
theorem iX4_person_24 : Ins mX4_person 24 25 1 (.aload_n 0) := ⟨by decide +kernel, rfl⟩
theorem iX4_person_25 : Ins mX4_person 25 28 3 (.getfield 10) := ⟨by decide +kernel, rfl⟩
theorem iX4_person_28 : Ins mX4_person 28 31 3 (.getfield 55) := ⟨by decide +kernel, rfl⟩
theorem iX4_person_31 : Ins mX4_person 31 33 2 (.bipush 8) := ⟨by decide +kernel, rfl⟩
theorem iX4_person_33 : InB mX4_person 33 36 42 (.if_icmp .lt) := ⟨by decide +kernel, rfl⟩
theorem iX4_person_36 : Ins mX4_person 36 37 1 (.aload_n 0) := ⟨by decide +kernel, rfl⟩
theorem iX4_person_37 : Ins mX4_person 37 38 1 (.iconst 1) := ⟨by decide +kernel, rfl⟩
theorem iX4_person_38 : Ins mX4_person 38 41 3 (.invokevirtual 48) := ⟨by decide +kernel, rfl⟩
theorem iX4_person_41 : Ins mX4_person 41 42 1 (.ireturn) := ⟨by decide +kernel, rfl⟩
theorem iX4_person_42 : Ins mX4_person 42 43 1 (.aload_n 0) := ⟨by decide +kernel, rfl⟩
theorem iX4_person_43 : Ins mX4_person 43 46 3 (.getfield 10) := ⟨by decide +kernel, rfl⟩
theorem iX4_person_46 : Ins mX4_person 46 47 1 (.iload_n 1) := ⟨by decide +kernel, rfl⟩
theorem iX4_person_47 : Ins mX4_person 47 48 1 (.iload_n 2) := ⟨by decide +kernel, rfl⟩
theorem iX4_person_48 : Ins mX4_person 48 49 1 (.iconst 0) := ⟨by decide +kernel, rfl⟩
theorem iX4_person_49 : Ins mX4_person 49 52 3 (.invokevirtual 59) := ⟨by decide +kernel, rfl⟩
theorem iX4_person_52 : Ins mX4_person 52 53 1 (.ireturn) := ⟨by decide +kernel, rfl⟩
theorem iX4_saying_0 : Ins mX4_saying 0 1 1 (.aload_n 0) := ⟨by decide +kernel, rfl⟩
theorem iX4_saying_1 : Ins mX4_saying 1 4 3 (.getfield 10) := ⟨by decide +kernel, rfl⟩
theorem iX4_saying_4 : Ins mX4_saying 4 5 1 (.iload_n 1) := ⟨by decide +kernel, rfl⟩
theorem iX4_saying_5 : Ins mX4_saying 5 8 3 (.invokevirtual 63) := ⟨by decide +kernel, rfl⟩
theorem iX4_saying_8 : InB mX4_saying 8 11 29 (.ifCond .eq) := ⟨by decide +kernel, rfl⟩
theorem iX4_saying_11 : Ins mX4_saying 11 12 1 (.iload_n 2) := ⟨by decide +kernel, rfl⟩
theorem iX4_saying_12 : Ins mX4_saying 12 14 2 (.bipush 7) := ⟨by decide +kernel, rfl⟩
theorem iX4_saying_14 : Ins mX4_saying 14 17 3 (.invokestatic 44) := ⟨by decide +kernel, rfl⟩
theorem iX4_saying_17 : InB mX4_saying 17 20 29 (.ifCond .eq) := ⟨by decide +kernel, rfl⟩
theorem iX4_saying_20 : Ins mX4_saying 20 21 1 (.iload_n 3) := ⟨by decide +kernel, rfl⟩
theorem iX4_saying_21 : Ins mX4_saying 21 23 2 (.bipush 9) := ⟨by decide +kernel, rfl⟩
theorem iX4_saying_23 : Ins mX4_saying 23 26 3 (.invokestatic 44) := ⟨by decide +kernel, rfl⟩
theorem iX4_saying_26 : InB mX4_saying 26 29 35 (.ifCond .ne) := ⟨by decide +kernel, rfl⟩
theorem iX4_saying_29 : Ins mX4_saying 29 30 1 (.aload_n 0) := ⟨by decide +kernel, rfl⟩
theorem iX4_saying_30 : Ins mX4_saying 30 31 1 (.iconst 0) := ⟨by decide +kernel, rfl⟩
theorem iX4_saying_31 : Ins mX4_saying 31 34 3 (.invokevirtual 48) := ⟨by decide +kernel, rfl⟩
theorem iX4_saying_34 : Ins mX4_saying 34 35 1 (.ireturn) := ⟨by decide +kernel, rfl⟩
theorem iX4_saying_35 : Ins mX4_saying 35 36 1 (.aload_n 0) := ⟨by decide +kernel, rfl⟩
theorem iX4_saying_36 : Ins mX4_saying 36 39 3 (.getfield 10) := ⟨by decide +kernel, rfl⟩
theorem iX4_saying_39 : Ins mX4_saying 39 42 3 (.getfield 67) := ⟨by decide +kernel, rfl⟩
theorem iX4_saying_42 : Ins mX4_saying 42 44 2 (.bipush 6) := ⟨by decide +kernel, rfl⟩
theorem iX4_saying_44 : InB mX4_saying 44 47 53 (.if_icmp .lt) := ⟨by decide +kernel, rfl⟩
theorem iX4_saying_47 : Ins mX4_saying 47 48 1 (.aload_n 0) := ⟨by decide +kernel, rfl⟩
theorem iX4_saying_48 : Ins mX4_saying 48 49 1 (.iconst 1) := ⟨by decide +kernel, rfl⟩
theorem iX4_saying_49 : Ins mX4_saying 49 52 3 (.invokevirtual 48) := ⟨by decide +kernel, rfl⟩
theorem iX4_saying_52 : Ins mX4_saying 52 53 1 (.ireturn) := ⟨by decide +kernel, rfl⟩
theorem iX4_saying_53 : Ins mX4_saying 53 54 1 (.aload_n 0) := ⟨by decide +kernel, rfl⟩
theorem iX4_saying_54 : Ins mX4_saying 54 57 3 (.getfield 10) := ⟨by decide +kernel, rfl⟩
theorem iX4_saying_57 : Ins mX4_saying 57 58 1 (.iload_n 1) := ⟨by decide +kernel, rfl⟩
theorem iX4_saying_58 : Ins mX4_saying 58 59 1 (.iload_n 2) := ⟨by decide +kernel, rfl⟩
theorem iX4_saying_59 : Ins mX4_saying 59 60 1 (.iload_n 3) := ⟨by decide +kernel, rfl⟩
theorem iX4_saying_60 : Ins mX4_saying 60 63 3 (.invokevirtual 70) := ⟨by decide +kernel, rfl⟩
theorem iX4_saying_63 : Ins mX4_saying 63 64 1 (.ireturn) := ⟨by decide +kernel, rfl⟩
theorem iX4_of_0 : Ins mX4_of 0 1 1 (.aload_n 0) := ⟨by decide +kernel, rfl⟩
theorem iX4_of_1 : Ins mX4_of 1 4 3 (.getfield 10) := ⟨by decide +kernel, rfl⟩
theorem iX4_of_4 : Ins mX4_of 4 5 1 (.iload_n 1) := ⟨by decide +kernel, rfl⟩
theorem iX4_of_5 : Ins mX4_of 5 8 3 (.invokevirtual 63) := ⟨by decide +kernel, rfl⟩
theorem iX4_of_8 : InB mX4_of 8 11 17 (.ifCond .ne) := ⟨by decide +kernel, rfl⟩
theorem iX4_of_11 : Ins mX4_of 11 12 1 (.aload_n 0) := ⟨by decide +kernel, rfl⟩
theorem iX4_of_12 : Ins mX4_of 12 13 1 (.iconst 0) := ⟨by decide +kernel, rfl⟩
theorem iX4_of_13 : Ins mX4_of 13 16 3 (.invokevirtual 48) := ⟨by decide +kernel, rfl⟩
theorem iX4_of_16 : Ins mX4_of 16 17 1 (.ireturn) := ⟨by decide +kernel, rfl⟩
theorem iX4_of_17 : Ins mX4_of 17 18 1 (.iload_n 2) := ⟨by decide +kernel, rfl⟩
theorem iX4_of_18 : decode mX4_of.2.1 18 = .ok (.tableswitch 83 0 4 #[34, 44, 54, 64, 74], 34) := by decide +kernel
theorem iX4_of_52 : Ins mX4_of 52 53 1 (.aload_n 0) := ⟨by decide +kernel, rfl⟩
theorem iX4_of_53 : Ins mX4_of 53 56 3 (.getfield 10) := ⟨by decide +kernel, rfl⟩
theorem iX4_of_56 : Ins mX4_of 56 59 3 (.getfield 73) := ⟨by decide +kernel, rfl⟩
theorem iX4_of_59 : Ins mX4_of 59 60 1 (.iload_n 1) := ⟨by decide +kernel, rfl⟩
theorem iX4_of_60 : Ins mX4_of 60 61 1 (.iaload) := ⟨by decide +kernel, rfl⟩
theorem iX4_of_61 : Ins mX4_of 61 62 1 (.ireturn) := ⟨by decide +kernel, rfl⟩
theorem iX4_of_62 : Ins mX4_of 62 63 1 (.aload_n 0) := ⟨by decide +kernel, rfl⟩
theorem iX4_of_63 : Ins mX4_of 63 66 3 (.getfield 10) := ⟨by decide +kernel, rfl⟩
theorem iX4_of_66 : Ins mX4_of 66 69 3 (.getfield 76) := ⟨by decide +kernel, rfl⟩
theorem iX4_of_69 : Ins mX4_of 69 70 1 (.iload_n 1) := ⟨by decide +kernel, rfl⟩
theorem iX4_of_70 : Ins mX4_of 70 71 1 (.iaload) := ⟨by decide +kernel, rfl⟩
theorem iX4_of_71 : Ins mX4_of 71 72 1 (.ireturn) := ⟨by decide +kernel, rfl⟩
theorem iX4_of_72 : Ins mX4_of 72 73 1 (.aload_n 0) := ⟨by decide +kernel, rfl⟩
theorem iX4_of_73 : Ins mX4_of 73 76 3 (.getfield 10) := ⟨by decide +kernel, rfl⟩
theorem iX4_of_76 : Ins mX4_of 76 79 3 (.getfield 79) := ⟨by decide +kernel, rfl⟩
theorem iX4_of_79 : Ins mX4_of 79 80 1 (.iload_n 1) := ⟨by decide +kernel, rfl⟩
theorem iX4_of_80 : Ins mX4_of 80 81 1 (.iaload) := ⟨by decide +kernel, rfl⟩
theorem iX4_of_81 : Ins mX4_of 81 82 1 (.ireturn) := ⟨by decide +kernel, rfl⟩
theorem iX4_of_82 : Ins mX4_of 82 83 1 (.aload_n 0) := ⟨by decide +kernel, rfl⟩
theorem iX4_of_83 : Ins mX4_of 83 86 3 (.getfield 10) := ⟨by decide +kernel, rfl⟩
theorem iX4_of_86 : Ins mX4_of 86 89 3 (.getfield 82) := ⟨by decide +kernel, rfl⟩
theorem iX4_of_89 : Ins mX4_of 89 90 1 (.iload_n 1) := ⟨by decide +kernel, rfl⟩
theorem iX4_of_90 : Ins mX4_of 90 91 1 (.iaload) := ⟨by decide +kernel, rfl⟩
theorem iX4_of_91 : Ins mX4_of 91 92 1 (.ireturn) := ⟨by decide +kernel, rfl⟩
theorem iX4_of_92 : Ins mX4_of 92 93 1 (.aload_n 0) := ⟨by decide +kernel, rfl⟩
theorem iX4_of_93 : Ins mX4_of 93 96 3 (.getfield 10) := ⟨by decide +kernel, rfl⟩
theorem iX4_of_96 : Ins mX4_of 96 97 1 (.iload_n 1) := ⟨by decide +kernel, rfl⟩
theorem iX4_of_97 : Ins mX4_of 97 100 3 (.invokevirtual 85) := ⟨by decide +kernel, rfl⟩
theorem iX4_of_100 : Ins mX4_of 100 101 1 (.ireturn) := ⟨by decide +kernel, rfl⟩
theorem iX4_of_101 : Ins mX4_of 101 102 1 (.aload_n 0) := ⟨by decide +kernel, rfl⟩
theorem iX4_of_102 : Ins mX4_of 102 103 1 (.iconst 0) := ⟨by decide +kernel, rfl⟩
theorem iX4_of_103 : Ins mX4_of 103 106 3 (.invokevirtual 48) := ⟨by decide +kernel, rfl⟩
theorem iX4_of_106 : Ins mX4_of 106 107 1 (.ireturn) := ⟨by decide +kernel, rfl⟩
theorem iX4_change_0 : Ins mX4_change 0 1 1 (.aload_n 0) := ⟨by decide +kernel, rfl⟩
theorem iX4_change_1 : Ins mX4_change 1 4 3 (.getfield 10) := ⟨by decide +kernel, rfl⟩
theorem iX4_change_4 : Ins mX4_change 4 5 1 (.iload_n 1) := ⟨by decide +kernel, rfl⟩
theorem iX4_change_5 : Ins mX4_change 5 8 3 (.invokevirtual 63) := ⟨by decide +kernel, rfl⟩
theorem iX4_change_8 : InB mX4_change 8 11 17 (.ifCond .ne) := ⟨by decide +kernel, rfl⟩
theorem iX4_change_11 : Ins mX4_change 11 12 1 (.aload_n 0) := ⟨by decide +kernel, rfl⟩
theorem iX4_change_12 : Ins mX4_change 12 13 1 (.iconst 0) := ⟨by decide +kernel, rfl⟩
theorem iX4_change_13 : Ins mX4_change 13 16 3 (.invokevirtual 48) := ⟨by decide +kernel, rfl⟩
theorem iX4_change_16 : Ins mX4_change 16 17 1 (.ireturn) := ⟨by decide +kernel, rfl⟩
theorem iX4_change_17 : Ins mX4_change 17 18 1 (.iload_n 2) := ⟨by decide +kernel, rfl⟩
theorem iX4_change_18 : decode mX4_change.2.1 18 = .ok (.tableswitch 94 0 3 #[30, 46, 62, 77], 30) := by decide +kernel
theorem iX4_change_48 : Ins mX4_change 48 49 1 (.aload_n 0) := ⟨by decide +kernel, rfl⟩
theorem iX4_change_49 : Ins mX4_change 49 50 1 (.aload_n 0) := ⟨by decide +kernel, rfl⟩
theorem iX4_change_50 : Ins mX4_change 50 53 3 (.getfield 10) := ⟨by decide +kernel, rfl⟩
theorem iX4_change_53 : Ins mX4_change 53 56 3 (.getfield 73) := ⟨by decide +kernel, rfl⟩
theorem iX4_change_56 : Ins mX4_change 56 57 1 (.iload_n 1) := ⟨by decide +kernel, rfl⟩
theorem iX4_change_57 : Ins mX4_change 57 58 1 (.iload_n 3) := ⟨by decide +kernel, rfl⟩
theorem iX4_change_58 : Ins mX4_change 58 60 2 (.bipush 6) := ⟨by decide +kernel, rfl⟩
theorem iX4_change_60 : Ins mX4_change 60 63 3 (.invokevirtual 88) := ⟨by decide +kernel, rfl⟩
theorem iX4_change_63 : Ins mX4_change 63 64 1 (.ireturn) := ⟨by decide +kernel, rfl⟩
theorem iX4_change_64 : Ins mX4_change 64 65 1 (.aload_n 0) := ⟨by decide +kernel, rfl⟩
theorem iX4_change_65 : Ins mX4_change 65 66 1 (.aload_n 0) := ⟨by decide +kernel, rfl⟩
theorem iX4_change_66 : Ins mX4_change 66 69 3 (.getfield 10) := ⟨by decide +kernel, rfl⟩
theorem iX4_change_69 : Ins mX4_change 69 72 3 (.getfield 76) := ⟨by decide +kernel, rfl⟩
theorem iX4_change_72 : Ins mX4_change 72 73 1 (.iload_n 1) := ⟨by decide +kernel, rfl⟩
theorem iX4_change_73 : Ins mX4_change 73 74 1 (.iload_n 3) := ⟨by decide +kernel, rfl⟩
theorem iX4_change_74 : Ins mX4_change 74 76 2 (.bipush 9) := ⟨by decide +kernel, rfl⟩
theorem iX4_change_76 : Ins mX4_change 76 79 3 (.invokevirtual 88) := ⟨by decide +kernel, rfl⟩
theorem iX4_change_79 : Ins mX4_change 79 80 1 (.ireturn) := ⟨by decide +kernel, rfl⟩
theorem iX4_change_80 : Ins mX4_change 80 81 1 (.aload_n 0) := ⟨by decide +kernel, rfl⟩
theorem iX4_change_81 : Ins mX4_change 81 82 1 (.aload_n 0) := ⟨by decide +kernel, rfl⟩
theorem iX4_change_82 : Ins mX4_change 82 85 3 (.getfield 10) := ⟨by decide +kernel, rfl⟩
theorem iX4_change_85 : Ins mX4_change 85 88 3 (.getfield 79) := ⟨by decide +kernel, rfl⟩
theorem iX4_change_88 : Ins mX4_change 88 89 1 (.iload_n 1) := ⟨by decide +kernel, rfl⟩
theorem iX4_change_89 : Ins mX4_change 89 90 1 (.iload_n 3) := ⟨by decide +kernel, rfl⟩
theorem iX4_change_90 : Ins mX4_change 90 91 1 (.iconst 1) := ⟨by decide +kernel, rfl⟩
theorem iX4_change_91 : Ins mX4_change 91 94 3 (.invokevirtual 88) := ⟨by decide +kernel, rfl⟩
theorem iX4_change_94 : Ins mX4_change 94 95 1 (.ireturn) := ⟨by decide +kernel, rfl⟩
theorem iX4_change_95 : Ins mX4_change 95 96 1 (.aload_n 0) := ⟨by decide +kernel, rfl⟩
theorem iX4_change_96 : Ins mX4_change 96 97 1 (.aload_n 0) := ⟨by decide +kernel, rfl⟩
theorem iX4_change_97 : Ins mX4_change 97 100 3 (.getfield 10) := ⟨by decide +kernel, rfl⟩
theorem iX4_change_100 : Ins mX4_change 100 103 3 (.getfield 82) := ⟨by decide +kernel, rfl⟩
theorem iX4_change_103 : Ins mX4_change 103 104 1 (.iload_n 1) := ⟨by decide +kernel, rfl⟩
theorem iX4_change_104 : Ins mX4_change 104 105 1 (.iload_n 3) := ⟨by decide +kernel, rfl⟩
theorem iX4_change_105 : Ins mX4_change 105 108 3 (.sipush 9999) := ⟨by decide +kernel, rfl⟩
theorem iX4_change_108 : Ins mX4_change 108 111 3 (.invokevirtual 88) := ⟨by decide +kernel, rfl⟩
theorem iX4_change_111 : Ins mX4_change 111 112 1 (.ireturn) := ⟨by decide +kernel, rfl⟩
theorem iX4_change_112 : Ins mX4_change 112 113 1 (.aload_n 0) := ⟨by decide +kernel, rfl⟩
theorem iX4_change_113 : Ins mX4_change 113 114 1 (.iconst 0) := ⟨by decide +kernel, rfl⟩
theorem iX4_change_114 : Ins mX4_change 114 117 3 (.invokevirtual 48) := ⟨by decide +kernel, rfl⟩
theorem iX4_change_117 : Ins mX4_change 117 118 1 (.ireturn) := ⟨by decide +kernel, rfl⟩
theorem iX4_ofSaying_0 : Ins mX4_ofSaying 0 1 1 (.aload_n 0) := ⟨by decide +kernel, rfl⟩
theorem iX4_ofSaying_1 : Ins mX4_ofSaying 1 4 3 (.getfield 10) := ⟨by decide +kernel, rfl⟩
theorem iX4_ofSaying_4 : Ins mX4_ofSaying 4 5 1 (.iload_n 1) := ⟨by decide +kernel, rfl⟩
theorem iX4_ofSaying_5 : Ins mX4_ofSaying 5 8 3 (.invokevirtual 92) := ⟨by decide +kernel, rfl⟩
theorem iX4_ofSaying_8 : InB mX4_ofSaying 8 11 17 (.ifCond .ne) := ⟨by decide +kernel, rfl⟩
theorem iX4_ofSaying_11 : Ins mX4_ofSaying 11 12 1 (.aload_n 0) := ⟨by decide +kernel, rfl⟩
theorem iX4_ofSaying_12 : Ins mX4_ofSaying 12 13 1 (.iconst 0) := ⟨by decide +kernel, rfl⟩
theorem iX4_ofSaying_13 : Ins mX4_ofSaying 13 16 3 (.invokevirtual 48) := ⟨by decide +kernel, rfl⟩
theorem iX4_ofSaying_16 : Ins mX4_ofSaying 16 17 1 (.ireturn) := ⟨by decide +kernel, rfl⟩
theorem iX4_ofSaying_17 : Ins mX4_ofSaying 17 18 1 (.iload_n 2) := ⟨by decide +kernel, rfl⟩
theorem iX4_ofSaying_18 : decode mX4_ofSaying.2.1 18 = .ok (.tableswitch 56 0 2 #[26, 36, 46], 26) := by decide +kernel
theorem iX4_ofSaying_44 : Ins mX4_ofSaying 44 45 1 (.aload_n 0) := ⟨by decide +kernel, rfl⟩
theorem iX4_ofSaying_45 : Ins mX4_ofSaying 45 48 3 (.getfield 10) := ⟨by decide +kernel, rfl⟩
theorem iX4_ofSaying_48 : Ins mX4_ofSaying 48 51 3 (.getfield 95) := ⟨by decide +kernel, rfl⟩
theorem iX4_ofSaying_51 : Ins mX4_ofSaying 51 52 1 (.iload_n 1) := ⟨by decide +kernel, rfl⟩
theorem iX4_ofSaying_52 : Ins mX4_ofSaying 52 53 1 (.iaload) := ⟨by decide +kernel, rfl⟩
theorem iX4_ofSaying_53 : Ins mX4_ofSaying 53 54 1 (.ireturn) := ⟨by decide +kernel, rfl⟩
theorem iX4_ofSaying_54 : Ins mX4_ofSaying 54 55 1 (.aload_n 0) := ⟨by decide +kernel, rfl⟩
theorem iX4_ofSaying_55 : Ins mX4_ofSaying 55 58 3 (.getfield 10) := ⟨by decide +kernel, rfl⟩
theorem iX4_ofSaying_58 : Ins mX4_ofSaying 58 61 3 (.getfield 98) := ⟨by decide +kernel, rfl⟩
theorem iX4_ofSaying_61 : Ins mX4_ofSaying 61 62 1 (.iload_n 1) := ⟨by decide +kernel, rfl⟩
theorem iX4_ofSaying_62 : Ins mX4_ofSaying 62 63 1 (.iaload) := ⟨by decide +kernel, rfl⟩
theorem iX4_ofSaying_63 : Ins mX4_ofSaying 63 64 1 (.ireturn) := ⟨by decide +kernel, rfl⟩
theorem iX4_ofSaying_64 : Ins mX4_ofSaying 64 65 1 (.aload_n 0) := ⟨by decide +kernel, rfl⟩
theorem iX4_ofSaying_65 : Ins mX4_ofSaying 65 68 3 (.getfield 10) := ⟨by decide +kernel, rfl⟩
theorem iX4_ofSaying_68 : Ins mX4_ofSaying 68 71 3 (.getfield 101) := ⟨by decide +kernel, rfl⟩
theorem iX4_ofSaying_71 : Ins mX4_ofSaying 71 72 1 (.iload_n 1) := ⟨by decide +kernel, rfl⟩
theorem iX4_ofSaying_72 : Ins mX4_ofSaying 72 73 1 (.iaload) := ⟨by decide +kernel, rfl⟩
theorem iX4_ofSaying_73 : Ins mX4_ofSaying 73 74 1 (.ireturn) := ⟨by decide +kernel, rfl⟩
theorem iX4_ofSaying_74 : Ins mX4_ofSaying 74 75 1 (.aload_n 0) := ⟨by decide +kernel, rfl⟩
theorem iX4_ofSaying_75 : Ins mX4_ofSaying 75 76 1 (.iconst 0) := ⟨by decide +kernel, rfl⟩
theorem iX4_ofSaying_76 : Ins mX4_ofSaying 76 79 3 (.invokevirtual 48) := ⟨by decide +kernel, rfl⟩
theorem iX4_ofSaying_79 : Ins mX4_ofSaying 79 80 1 (.ireturn) := ⟨by decide +kernel, rfl⟩
theorem iX4_alter_0 : Ins mX4_alter 0 1 1 (.aload_n 0) := ⟨by decide +kernel, rfl⟩
theorem iX4_alter_1 : Ins mX4_alter 1 4 3 (.getfield 10) := ⟨by decide +kernel, rfl⟩
theorem iX4_alter_4 : Ins mX4_alter 4 5 1 (.iload_n 1) := ⟨by decide +kernel, rfl⟩
theorem iX4_alter_5 : Ins mX4_alter 5 8 3 (.invokevirtual 92) := ⟨by decide +kernel, rfl⟩
theorem iX4_alter_8 : InB mX4_alter 8 11 17 (.ifCond .ne) := ⟨by decide +kernel, rfl⟩
theorem iX4_alter_11 : Ins mX4_alter 11 12 1 (.aload_n 0) := ⟨by decide +kernel, rfl⟩
theorem iX4_alter_12 : Ins mX4_alter 12 13 1 (.iconst 0) := ⟨by decide +kernel, rfl⟩
theorem iX4_alter_13 : Ins mX4_alter 13 16 3 (.invokevirtual 48) := ⟨by decide +kernel, rfl⟩
theorem iX4_alter_16 : Ins mX4_alter 16 17 1 (.ireturn) := ⟨by decide +kernel, rfl⟩
theorem iX4_alter_17 : Ins mX4_alter 17 18 1 (.iload_n 2) := ⟨by decide +kernel, rfl⟩
theorem iX4_alter_18 : decode mX4_alter.2.1 18 = .ok (.lookupswitch 58 #[(0, 26), (1, 42)], 26) := by decide +kernel
theorem iX4_alter_44 : Ins mX4_alter 44 45 1 (.aload_n 0) := ⟨by decide +kernel, rfl⟩
theorem iX4_alter_45 : Ins mX4_alter 45 46 1 (.aload_n 0) := ⟨by decide +kernel, rfl⟩
theorem iX4_alter_46 : Ins mX4_alter 46 49 3 (.getfield 10) := ⟨by decide +kernel, rfl⟩
theorem iX4_alter_49 : Ins mX4_alter 49 52 3 (.getfield 95) := ⟨by decide +kernel, rfl⟩
theorem iX4_alter_52 : Ins mX4_alter 52 53 1 (.iload_n 1) := ⟨by decide +kernel, rfl⟩
theorem iX4_alter_53 : Ins mX4_alter 53 54 1 (.iload_n 3) := ⟨by decide +kernel, rfl⟩
theorem iX4_alter_54 : Ins mX4_alter 54 56 2 (.bipush 7) := ⟨by decide +kernel, rfl⟩
theorem iX4_alter_56 : Ins mX4_alter 56 59 3 (.invokevirtual 88) := ⟨by decide +kernel, rfl⟩
theorem iX4_alter_59 : Ins mX4_alter 59 60 1 (.ireturn) := ⟨by decide +kernel, rfl⟩
theorem iX4_alter_60 : Ins mX4_alter 60 61 1 (.aload_n 0) := ⟨by decide +kernel, rfl⟩
theorem iX4_alter_61 : Ins mX4_alter 61 62 1 (.aload_n 0) := ⟨by decide +kernel, rfl⟩
theorem iX4_alter_62 : Ins mX4_alter 62 65 3 (.getfield 10) := ⟨by decide +kernel, rfl⟩
theorem iX4_alter_65 : Ins mX4_alter 65 68 3 (.getfield 98) := ⟨by decide +kernel, rfl⟩
theorem iX4_alter_68 : Ins mX4_alter 68 69 1 (.iload_n 1) := ⟨by decide +kernel, rfl⟩
theorem iX4_alter_69 : Ins mX4_alter 69 70 1 (.iload_n 3) := ⟨by decide +kernel, rfl⟩
theorem iX4_alter_70 : Ins mX4_alter 70 72 2 (.bipush 9) := ⟨by decide +kernel, rfl⟩
theorem iX4_alter_72 : Ins mX4_alter 72 75 3 (.invokevirtual 88) := ⟨by decide +kernel, rfl⟩
theorem iX4_alter_75 : Ins mX4_alter 75 76 1 (.ireturn) := ⟨by decide +kernel, rfl⟩
theorem iX4_alter_76 : Ins mX4_alter 76 77 1 (.aload_n 0) := ⟨by decide +kernel, rfl⟩
theorem iX4_alter_77 : Ins mX4_alter 77 78 1 (.iconst 0) := ⟨by decide +kernel, rfl⟩
theorem iX4_alter_78 : Ins mX4_alter 78 81 3 (.invokevirtual 48) := ⟨by decide +kernel, rfl⟩
theorem iX4_alter_81 : Ins mX4_alter 81 82 1 (.ireturn) := ⟨by decide +kernel, rfl⟩
theorem iX4_from_0 : Ins mX4_from 0 1 1 (.aload_n 0) := ⟨by decide +kernel, rfl⟩
theorem iX4_from_1 : Ins mX4_from 1 4 3 (.getfield 10) := ⟨by decide +kernel, rfl⟩
theorem iX4_from_4 : Ins mX4_from 4 5 1 (.iload_n 1) := ⟨by decide +kernel, rfl⟩
theorem iX4_from_5 : Ins mX4_from 5 8 3 (.invokevirtual 92) := ⟨by decide +kernel, rfl⟩
theorem iX4_from_8 : InB mX4_from 8 11 22 (.ifCond .eq) := ⟨by decide +kernel, rfl⟩
theorem iX4_from_11 : Ins mX4_from 11 12 1 (.aload_n 0) := ⟨by decide +kernel, rfl⟩
theorem iX4_from_12 : Ins mX4_from 12 15 3 (.getfield 10) := ⟨by decide +kernel, rfl⟩
theorem iX4_from_15 : Ins mX4_from 15 16 1 (.iload_n 2) := ⟨by decide +kernel, rfl⟩
theorem iX4_from_16 : Ins mX4_from 16 19 3 (.invokevirtual 63) := ⟨by decide +kernel, rfl⟩
theorem iX4_from_19 : InB mX4_from 19 22 28 (.ifCond .ne) := ⟨by decide +kernel, rfl⟩
theorem iX4_from_22 : Ins mX4_from 22 23 1 (.aload_n 0) := ⟨by decide +kernel, rfl⟩
theorem iX4_from_23 : Ins mX4_from 23 24 1 (.iconst 0) := ⟨by decide +kernel, rfl⟩
theorem iX4_from_24 : Ins mX4_from 24 27 3 (.invokevirtual 48) := ⟨by decide +kernel, rfl⟩
theorem iX4_from_27 : Ins mX4_from 27 28 1 (.ireturn) := ⟨by decide +kernel, rfl⟩
theorem iX4_from_28 : Ins mX4_from 28 29 1 (.aload_n 0) := ⟨by decide +kernel, rfl⟩
theorem iX4_from_29 : Ins mX4_from 29 32 3 (.getfield 10) := ⟨by decide +kernel, rfl⟩
theorem iX4_from_32 : Ins mX4_from 32 33 1 (.iload_n 1) := ⟨by decide +kernel, rfl⟩
theorem iX4_from_33 : Ins mX4_from 33 34 1 (.iload_n 2) := ⟨by decide +kernel, rfl⟩
theorem iX4_from_34 : Ins mX4_from 34 37 3 (.invokevirtual 104) := ⟨by decide +kernel, rfl⟩
theorem iX4_from_37 : InB mX4_from 37 40 52 (.ifCond .eq) := ⟨by decide +kernel, rfl⟩
theorem iX4_from_40 : Ins mX4_from 40 41 1 (.aload_n 0) := ⟨by decide +kernel, rfl⟩
theorem iX4_from_41 : Ins mX4_from 41 44 3 (.getfield 10) := ⟨by decide +kernel, rfl⟩
theorem iX4_from_44 : Ins mX4_from 44 45 1 (.iload_n 1) := ⟨by decide +kernel, rfl⟩
theorem iX4_from_45 : Ins mX4_from 45 46 1 (.iload_n 2) := ⟨by decide +kernel, rfl⟩
theorem iX4_from_46 : Ins mX4_from 46 49 3 (.invokevirtual 107) := ⟨by decide +kernel, rfl⟩
theorem iX4_from_49 : InB mX4_from 49 52 57 .goto := ⟨by decide +kernel, rfl⟩
theorem iX4_from_52 : Ins mX4_from 52 53 1 (.aload_n 0) := ⟨by decide +kernel, rfl⟩
theorem iX4_from_53 : Ins mX4_from 53 54 1 (.iconst 3) := ⟨by decide +kernel, rfl⟩
theorem iX4_from_54 : Ins mX4_from 54 57 3 (.invokevirtual 48) := ⟨by decide +kernel, rfl⟩
theorem iX4_from_57 : Ins mX4_from 57 58 1 (.ireturn) := ⟨by decide +kernel, rfl⟩
theorem iX4_traced_0 : Ins mX4_traced 0 1 1 (.aload_n 0) := ⟨by decide +kernel, rfl⟩
theorem iX4_traced_1 : Ins mX4_traced 1 4 3 (.getfield 10) := ⟨by decide +kernel, rfl⟩
theorem iX4_traced_4 : Ins mX4_traced 4 5 1 (.iload_n 1) := ⟨by decide +kernel, rfl⟩
theorem iX4_traced_5 : Ins mX4_traced 5 8 3 (.invokevirtual 92) := ⟨by decide +kernel, rfl⟩
theorem iX4_traced_8 : InB mX4_traced 8 11 22 (.ifCond .eq) := ⟨by decide +kernel, rfl⟩
theorem iX4_traced_11 : Ins mX4_traced 11 12 1 (.aload_n 0) := ⟨by decide +kernel, rfl⟩
theorem iX4_traced_12 : Ins mX4_traced 12 15 3 (.getfield 10) := ⟨by decide +kernel, rfl⟩
theorem iX4_traced_15 : Ins mX4_traced 15 16 1 (.iload_n 2) := ⟨by decide +kernel, rfl⟩
theorem iX4_traced_16 : Ins mX4_traced 16 19 3 (.invokevirtual 63) := ⟨by decide +kernel, rfl⟩
theorem iX4_traced_19 : InB mX4_traced 19 22 28 (.ifCond .ne) := ⟨by decide +kernel, rfl⟩
theorem iX4_traced_22 : Ins mX4_traced 22 23 1 (.aload_n 0) := ⟨by decide +kernel, rfl⟩
theorem iX4_traced_23 : Ins mX4_traced 23 24 1 (.iconst 0) := ⟨by decide +kernel, rfl⟩
theorem iX4_traced_24 : Ins mX4_traced 24 27 3 (.invokevirtual 48) := ⟨by decide +kernel, rfl⟩
theorem iX4_traced_27 : Ins mX4_traced 27 28 1 (.ireturn) := ⟨by decide +kernel, rfl⟩
theorem iX4_traced_28 : Ins mX4_traced 28 29 1 (.aload_n 0) := ⟨by decide +kernel, rfl⟩
theorem iX4_traced_29 : Ins mX4_traced 29 32 3 (.getfield 10) := ⟨by decide +kernel, rfl⟩
theorem iX4_traced_32 : Ins mX4_traced 32 33 1 (.iload_n 1) := ⟨by decide +kernel, rfl⟩
theorem iX4_traced_33 : Ins mX4_traced 33 34 1 (.iload_n 2) := ⟨by decide +kernel, rfl⟩
theorem iX4_traced_34 : Ins mX4_traced 34 37 3 (.invokevirtual 104) := ⟨by decide +kernel, rfl⟩
theorem iX4_traced_37 : InB mX4_traced 37 40 52 (.ifCond .eq) := ⟨by decide +kernel, rfl⟩
theorem iX4_traced_40 : Ins mX4_traced 40 41 1 (.aload_n 0) := ⟨by decide +kernel, rfl⟩
theorem iX4_traced_41 : Ins mX4_traced 41 44 3 (.getfield 10) := ⟨by decide +kernel, rfl⟩
theorem iX4_traced_44 : Ins mX4_traced 44 45 1 (.iload_n 1) := ⟨by decide +kernel, rfl⟩
theorem iX4_traced_45 : Ins mX4_traced 45 46 1 (.iload_n 2) := ⟨by decide +kernel, rfl⟩
theorem iX4_traced_46 : Ins mX4_traced 46 49 3 (.invokevirtual 111) := ⟨by decide +kernel, rfl⟩
theorem iX4_traced_49 : InB mX4_traced 49 52 57 .goto := ⟨by decide +kernel, rfl⟩
theorem iX4_traced_52 : Ins mX4_traced 52 53 1 (.aload_n 0) := ⟨by decide +kernel, rfl⟩
theorem iX4_traced_53 : Ins mX4_traced 53 54 1 (.iconst 3) := ⟨by decide +kernel, rfl⟩
theorem iX4_traced_54 : Ins mX4_traced 54 57 3 (.invokevirtual 48) := ⟨by decide +kernel, rfl⟩
theorem iX4_traced_57 : Ins mX4_traced 57 58 1 (.ireturn) := ⟨by decide +kernel, rfl⟩
theorem iX4_talk_0 : Ins mX4_talk 0 1 1 (.aload_n 0) := ⟨by decide +kernel, rfl⟩
theorem iX4_talk_1 : Ins mX4_talk 1 4 3 (.getfield 10) := ⟨by decide +kernel, rfl⟩
theorem iX4_talk_4 : Ins mX4_talk 4 5 1 (.iload_n 1) := ⟨by decide +kernel, rfl⟩
theorem iX4_talk_5 : Ins mX4_talk 5 8 3 (.invokevirtual 63) := ⟨by decide +kernel, rfl⟩
theorem iX4_talk_8 : InB mX4_talk 8 11 27 (.ifCond .eq) := ⟨by decide +kernel, rfl⟩
theorem iX4_talk_11 : Ins mX4_talk 11 12 1 (.aload_n 0) := ⟨by decide +kernel, rfl⟩
theorem iX4_talk_12 : Ins mX4_talk 12 15 3 (.getfield 10) := ⟨by decide +kernel, rfl⟩
theorem iX4_talk_15 : Ins mX4_talk 15 16 1 (.iload_n 2) := ⟨by decide +kernel, rfl⟩
theorem iX4_talk_16 : Ins mX4_talk 16 19 3 (.invokevirtual 63) := ⟨by decide +kernel, rfl⟩
theorem iX4_talk_19 : InB mX4_talk 19 22 27 (.ifCond .eq) := ⟨by decide +kernel, rfl⟩
theorem iX4_talk_22 : Ins mX4_talk 22 23 1 (.iload_n 1) := ⟨by decide +kernel, rfl⟩
theorem iX4_talk_23 : Ins mX4_talk 23 24 1 (.iload_n 2) := ⟨by decide +kernel, rfl⟩
theorem iX4_talk_24 : InB mX4_talk 24 27 33 (.if_icmp .ne) := ⟨by decide +kernel, rfl⟩
theorem iX4_talk_27 : Ins mX4_talk 27 28 1 (.aload_n 0) := ⟨by decide +kernel, rfl⟩
theorem iX4_talk_28 : Ins mX4_talk 28 29 1 (.iconst 0) := ⟨by decide +kernel, rfl⟩
theorem iX4_talk_29 : Ins mX4_talk 29 32 3 (.invokevirtual 48) := ⟨by decide +kernel, rfl⟩
theorem iX4_talk_32 : Ins mX4_talk 32 33 1 (.ireturn) := ⟨by decide +kernel, rfl⟩
theorem iX4_talk_33 : Ins mX4_talk 33 34 1 (.aload_n 0) := ⟨by decide +kernel, rfl⟩
theorem iX4_talk_34 : Ins mX4_talk 34 37 3 (.getfield 10) := ⟨by decide +kernel, rfl⟩
theorem iX4_talk_37 : Ins mX4_talk 37 40 3 (.getfield 79) := ⟨by decide +kernel, rfl⟩
theorem iX4_talk_40 : Ins mX4_talk 40 41 1 (.iload_n 1) := ⟨by decide +kernel, rfl⟩
theorem iX4_talk_41 : Ins mX4_talk 41 42 1 (.iaload) := ⟨by decide +kernel, rfl⟩
theorem iX4_talk_42 : InB mX4_talk 42 45 57 (.ifCond .ne) := ⟨by decide +kernel, rfl⟩
theorem iX4_talk_45 : Ins mX4_talk 45 46 1 (.aload_n 0) := ⟨by decide +kernel, rfl⟩
theorem iX4_talk_46 : Ins mX4_talk 46 49 3 (.getfield 10) := ⟨by decide +kernel, rfl⟩
theorem iX4_talk_49 : Ins mX4_talk 49 52 3 (.getfield 79) := ⟨by decide +kernel, rfl⟩
theorem iX4_talk_52 : Ins mX4_talk 52 53 1 (.iload_n 2) := ⟨by decide +kernel, rfl⟩
theorem iX4_talk_53 : Ins mX4_talk 53 54 1 (.iaload) := ⟨by decide +kernel, rfl⟩
theorem iX4_talk_54 : InB mX4_talk 54 57 63 (.ifCond .eq) := ⟨by decide +kernel, rfl⟩
theorem iX4_talk_57 : Ins mX4_talk 57 58 1 (.aload_n 0) := ⟨by decide +kernel, rfl⟩
theorem iX4_talk_58 : Ins mX4_talk 58 59 1 (.iconst 4) := ⟨by decide +kernel, rfl⟩
theorem iX4_talk_59 : Ins mX4_talk 59 62 3 (.invokevirtual 48) := ⟨by decide +kernel, rfl⟩
theorem iX4_talk_62 : Ins mX4_talk 62 63 1 (.ireturn) := ⟨by decide +kernel, rfl⟩
theorem iX4_talk_63 : Ins mX4_talk 63 64 1 (.aload_n 0) := ⟨by decide +kernel, rfl⟩
theorem iX4_talk_64 : Ins mX4_talk 64 67 3 (.getfield 10) := ⟨by decide +kernel, rfl⟩
theorem iX4_talk_67 : Ins mX4_talk 67 68 1 (.iload_n 1) := ⟨by decide +kernel, rfl⟩
theorem iX4_talk_68 : Ins mX4_talk 68 69 1 (.iload_n 2) := ⟨by decide +kernel, rfl⟩
theorem iX4_talk_69 : Ins mX4_talk 69 72 3 (.invokevirtual 114) := ⟨by decide +kernel, rfl⟩
theorem iX4_talk_72 : Ins mX4_talk 72 73 1 (.ireturn) := ⟨by decide +kernel, rfl⟩
theorem iX4_go_0 : Ins mX4_go 0 1 1 (.iload_n 1) := ⟨by decide +kernel, rfl⟩
theorem iX4_go_1 : Ins mX4_go 1 2 1 (.iconst 1) := ⟨by decide +kernel, rfl⟩
theorem iX4_go_2 : InB mX4_go 2 5 11 (.if_icmp .lt) := ⟨by decide +kernel, rfl⟩
theorem iX4_go_5 : Ins mX4_go 5 6 1 (.iload_n 1) := ⟨by decide +kernel, rfl⟩
theorem iX4_go_6 : Ins mX4_go 6 8 2 (.bipush 60) := ⟨by decide +kernel, rfl⟩
theorem iX4_go_8 : InB mX4_go 8 11 17 (.if_icmp .le) := ⟨by decide +kernel, rfl⟩
theorem iX4_go_11 : Ins mX4_go 11 12 1 (.aload_n 0) := ⟨by decide +kernel, rfl⟩
theorem iX4_go_12 : Ins mX4_go 12 13 1 (.iconst 0) := ⟨by decide +kernel, rfl⟩
theorem iX4_go_13 : Ins mX4_go 13 16 3 (.invokevirtual 48) := ⟨by decide +kernel, rfl⟩
theorem iX4_go_16 : Ins mX4_go 16 17 1 (.ireturn) := ⟨by decide +kernel, rfl⟩
theorem iX4_go_17 : Ins mX4_go 17 18 1 (.aload_n 0) := ⟨by decide +kernel, rfl⟩
theorem iX4_go_18 : Ins mX4_go 18 21 3 (.getfield 10) := ⟨by decide +kernel, rfl⟩
theorem iX4_go_21 : Ins mX4_go 21 24 3 (.getfield 117) := ⟨by decide +kernel, rfl⟩
theorem iX4_go_24 : Ins mX4_go 24 25 1 (.iload_n 1) := ⟨by decide +kernel, rfl⟩
theorem iX4_go_25 : Ins mX4_go 25 26 1 (.iadd) := ⟨by decide +kernel, rfl⟩
theorem iX4_go_26 : Ins mX4_go 26 28 2 (.ldc 120) := ⟨by decide +kernel, rfl⟩
theorem iX4_go_28 : InB mX4_go 28 31 37 (.if_icmp .le) := ⟨by decide +kernel, rfl⟩
theorem iX4_go_31 : Ins mX4_go 31 32 1 (.aload_n 0) := ⟨by decide +kernel, rfl⟩
theorem iX4_go_32 : Ins mX4_go 32 33 1 (.iconst 4) := ⟨by decide +kernel, rfl⟩
theorem iX4_go_33 : Ins mX4_go 33 36 3 (.invokevirtual 48) := ⟨by decide +kernel, rfl⟩
theorem iX4_go_36 : Ins mX4_go 36 37 1 (.ireturn) := ⟨by decide +kernel, rfl⟩
theorem iX4_go_37 : Ins mX4_go 37 38 1 (.aload_n 0) := ⟨by decide +kernel, rfl⟩
theorem iX4_go_38 : Ins mX4_go 38 41 3 (.getfield 10) := ⟨by decide +kernel, rfl⟩
theorem iX4_go_41 : Ins mX4_go 41 42 1 (.iload_n 1) := ⟨by decide +kernel, rfl⟩
theorem iX4_go_42 : Ins mX4_go 42 45 3 (.invokevirtual 121) := ⟨by decide +kernel, rfl⟩
theorem iX4_go_45 : Ins mX4_go 45 46 1 (.aload_n 0) := ⟨by decide +kernel, rfl⟩
theorem iX4_go_46 : Ins mX4_go 46 49 3 (.getfield 10) := ⟨by decide +kernel, rfl⟩
theorem iX4_go_49 : Ins mX4_go 49 52 3 (.getfield 125) := ⟨by decide +kernel, rfl⟩
theorem iX4_go_52 : Ins mX4_go 52 53 1 (.ireturn) := ⟨by decide +kernel, rfl⟩
theorem iX4_now_0 : Ins mX4_now 0 1 1 (.iload_n 1) := ⟨by decide +kernel, rfl⟩
theorem iX4_now_1 : decode mX4_now.2.1 1 = .ok (.tableswitch 111 0 7 #[47, 55, 63, 71, 79, 87, 95, 103], 47) := by decide +kernel
theorem iX4_now_48 : Ins mX4_now 48 49 1 (.aload_n 0) := ⟨by decide +kernel, rfl⟩
theorem iX4_now_49 : Ins mX4_now 49 52 3 (.getfield 10) := ⟨by decide +kernel, rfl⟩
theorem iX4_now_52 : Ins mX4_now 52 55 3 (.getfield 117) := ⟨by decide +kernel, rfl⟩
theorem iX4_now_55 : Ins mX4_now 55 56 1 (.ireturn) := ⟨by decide +kernel, rfl⟩
theorem iX4_now_56 : Ins mX4_now 56 57 1 (.aload_n 0) := ⟨by decide +kernel, rfl⟩
theorem iX4_now_57 : Ins mX4_now 57 60 3 (.getfield 10) := ⟨by decide +kernel, rfl⟩
theorem iX4_now_60 : Ins mX4_now 60 63 3 (.getfield 125) := ⟨by decide +kernel, rfl⟩
theorem iX4_now_63 : Ins mX4_now 63 64 1 (.ireturn) := ⟨by decide +kernel, rfl⟩
theorem iX4_now_64 : Ins mX4_now 64 65 1 (.aload_n 0) := ⟨by decide +kernel, rfl⟩
theorem iX4_now_65 : Ins mX4_now 65 68 3 (.getfield 10) := ⟨by decide +kernel, rfl⟩
theorem iX4_now_68 : Ins mX4_now 68 71 3 (.invokevirtual 128) := ⟨by decide +kernel, rfl⟩
theorem iX4_now_71 : Ins mX4_now 71 72 1 (.ireturn) := ⟨by decide +kernel, rfl⟩
theorem iX4_now_72 : Ins mX4_now 72 73 1 (.aload_n 0) := ⟨by decide +kernel, rfl⟩
theorem iX4_now_73 : Ins mX4_now 73 76 3 (.getfield 10) := ⟨by decide +kernel, rfl⟩
theorem iX4_now_76 : Ins mX4_now 76 79 3 (.invokevirtual 132) := ⟨by decide +kernel, rfl⟩
theorem iX4_now_79 : Ins mX4_now 79 80 1 (.ireturn) := ⟨by decide +kernel, rfl⟩
theorem iX4_now_80 : Ins mX4_now 80 81 1 (.aload_n 0) := ⟨by decide +kernel, rfl⟩
theorem iX4_now_81 : Ins mX4_now 81 84 3 (.getfield 10) := ⟨by decide +kernel, rfl⟩
theorem iX4_now_84 : Ins mX4_now 84 87 3 (.invokevirtual 135) := ⟨by decide +kernel, rfl⟩
theorem iX4_now_87 : Ins mX4_now 87 88 1 (.ireturn) := ⟨by decide +kernel, rfl⟩
theorem iX4_now_88 : Ins mX4_now 88 89 1 (.aload_n 0) := ⟨by decide +kernel, rfl⟩
theorem iX4_now_89 : Ins mX4_now 89 92 3 (.getfield 10) := ⟨by decide +kernel, rfl⟩
theorem iX4_now_92 : Ins mX4_now 92 95 3 (.invokevirtual 138) := ⟨by decide +kernel, rfl⟩
theorem iX4_now_95 : Ins mX4_now 95 96 1 (.ireturn) := ⟨by decide +kernel, rfl⟩
theorem iX4_now_96 : Ins mX4_now 96 97 1 (.aload_n 0) := ⟨by decide +kernel, rfl⟩
theorem iX4_now_97 : Ins mX4_now 97 100 3 (.getfield 10) := ⟨by decide +kernel, rfl⟩
theorem iX4_now_100 : Ins mX4_now 100 103 3 (.invokevirtual 141) := ⟨by decide +kernel, rfl⟩
theorem iX4_now_103 : Ins mX4_now 103 104 1 (.ireturn) := ⟨by decide +kernel, rfl⟩
theorem iX4_now_104 : Ins mX4_now 104 105 1 (.aload_n 0) := ⟨by decide +kernel, rfl⟩
theorem iX4_now_105 : Ins mX4_now 105 108 3 (.getfield 10) := ⟨by decide +kernel, rfl⟩
theorem iX4_now_108 : Ins mX4_now 108 111 3 (.invokevirtual 144) := ⟨by decide +kernel, rfl⟩
theorem iX4_now_111 : Ins mX4_now 111 112 1 (.ireturn) := ⟨by decide +kernel, rfl⟩
theorem iX4_now_112 : Ins mX4_now 112 113 1 (.aload_n 0) := ⟨by decide +kernel, rfl⟩
theorem iX4_now_113 : Ins mX4_now 113 114 1 (.iconst 0) := ⟨by decide +kernel, rfl⟩
theorem iX4_now_114 : Ins mX4_now 114 117 3 (.invokevirtual 48) := ⟨by decide +kernel, rfl⟩
theorem iX4_now_117 : Ins mX4_now 117 118 1 (.ireturn) := ⟨by decide +kernel, rfl⟩
theorem iX4_ahead_0 : Ins mX4_ahead 0 1 1 (.aload_n 0) := ⟨by decide +kernel, rfl⟩
theorem iX4_ahead_1 : Ins mX4_ahead 1 4 3 (.getfield 10) := ⟨by decide +kernel, rfl⟩
theorem iX4_ahead_4 : Ins mX4_ahead 4 5 1 (.iload_n 1) := ⟨by decide +kernel, rfl⟩
theorem iX4_ahead_5 : Ins mX4_ahead 5 8 3 (.invokevirtual 63) := ⟨by decide +kernel, rfl⟩
theorem iX4_ahead_8 : InB mX4_ahead 8 11 30 (.ifCond .eq) := ⟨by decide +kernel, rfl⟩
theorem iX4_ahead_11 : Ins mX4_ahead 11 12 1 (.iload_n 2) := ⟨by decide +kernel, rfl⟩
theorem iX4_ahead_12 : Ins mX4_ahead 12 13 1 (.iconst 3) := ⟨by decide +kernel, rfl⟩
theorem iX4_ahead_13 : InB mX4_ahead 13 16 21 (.if_icmp .eq) := ⟨by decide +kernel, rfl⟩
theorem iX4_ahead_16 : Ins mX4_ahead 16 17 1 (.iload_n 2) := ⟨by decide +kernel, rfl⟩
theorem iX4_ahead_17 : Ins mX4_ahead 17 18 1 (.iconst 4) := ⟨by decide +kernel, rfl⟩
theorem iX4_ahead_18 : InB mX4_ahead 18 21 30 (.if_icmp .ne) := ⟨by decide +kernel, rfl⟩
theorem iX4_ahead_21 : Ins mX4_ahead 21 22 1 (.iload_n 3) := ⟨by decide +kernel, rfl⟩
theorem iX4_ahead_22 : Ins mX4_ahead 22 24 2 (.bipush 100) := ⟨by decide +kernel, rfl⟩
theorem iX4_ahead_24 : Ins mX4_ahead 24 27 3 (.invokestatic 44) := ⟨by decide +kernel, rfl⟩
theorem iX4_ahead_27 : InB mX4_ahead 27 30 36 (.ifCond .ne) := ⟨by decide +kernel, rfl⟩
theorem iX4_ahead_30 : Ins mX4_ahead 30 31 1 (.aload_n 0) := ⟨by decide +kernel, rfl⟩
theorem iX4_ahead_31 : Ins mX4_ahead 31 32 1 (.iconst 0) := ⟨by decide +kernel, rfl⟩
theorem iX4_ahead_32 : Ins mX4_ahead 32 35 3 (.invokevirtual 48) := ⟨by decide +kernel, rfl⟩
theorem iX4_ahead_35 : Ins mX4_ahead 35 36 1 (.ireturn) := ⟨by decide +kernel, rfl⟩
theorem iX4_ahead_36 : Ins mX4_ahead 36 37 1 (.aload_n 0) := ⟨by decide +kernel, rfl⟩
theorem iX4_ahead_37 : Ins mX4_ahead 37 40 3 (.getfield 16) := ⟨by decide +kernel, rfl⟩
theorem iX4_ahead_40 : Ins mX4_ahead 40 41 1 (.aload_n 0) := ⟨by decide +kernel, rfl⟩
theorem iX4_ahead_41 : Ins mX4_ahead 41 44 3 (.getfield 10) := ⟨by decide +kernel, rfl⟩
theorem iX4_ahead_44 : Ins mX4_ahead 44 47 3 (.invokevirtual 147) := ⟨by decide +kernel, rfl⟩
theorem iX4_ahead_47 : Ins mX4_ahead 47 48 1 (.aload_n 0) := ⟨by decide +kernel, rfl⟩
theorem iX4_ahead_48 : Ins mX4_ahead 48 51 3 (.getfield 16) := ⟨by decide +kernel, rfl⟩
theorem iX4_ahead_51 : Ins mX4_ahead 51 52 1 (.iload_n 3) := ⟨by decide +kernel, rfl⟩
theorem iX4_ahead_52 : Ins mX4_ahead 52 55 3 (.invokevirtual 121) := ⟨by decide +kernel, rfl⟩
theorem iX4_ahead_55 : Ins mX4_ahead 55 56 1 (.iload_n 2) := ⟨by decide +kernel, rfl⟩
theorem iX4_ahead_56 : Ins mX4_ahead 56 57 1 (.iconst 3) := ⟨by decide +kernel, rfl⟩
theorem iX4_ahead_57 : InB mX4_ahead 57 60 72 (.if_icmp .ne) := ⟨by decide +kernel, rfl⟩
theorem iX4_ahead_60 : Ins mX4_ahead 60 61 1 (.aload_n 0) := ⟨by decide +kernel, rfl⟩
theorem iX4_ahead_61 : Ins mX4_ahead 61 64 3 (.getfield 16) := ⟨by decide +kernel, rfl⟩
theorem iX4_ahead_64 : Ins mX4_ahead 64 67 3 (.getfield 82) := ⟨by decide +kernel, rfl⟩
theorem iX4_ahead_67 : Ins mX4_ahead 67 68 1 (.iload_n 1) := ⟨by decide +kernel, rfl⟩
theorem iX4_ahead_68 : Ins mX4_ahead 68 69 1 (.iaload) := ⟨by decide +kernel, rfl⟩
theorem iX4_ahead_69 : InB mX4_ahead 69 72 80 .goto := ⟨by decide +kernel, rfl⟩
theorem iX4_ahead_72 : Ins mX4_ahead 72 73 1 (.aload_n 0) := ⟨by decide +kernel, rfl⟩
theorem iX4_ahead_73 : Ins mX4_ahead 73 76 3 (.getfield 16) := ⟨by decide +kernel, rfl⟩
theorem iX4_ahead_76 : Ins mX4_ahead 76 77 1 (.iload_n 1) := ⟨by decide +kernel, rfl⟩
theorem iX4_ahead_77 : Ins mX4_ahead 77 80 3 (.invokevirtual 85) := ⟨by decide +kernel, rfl⟩
theorem iX4_ahead_80 : Ins mX4_ahead 80 81 1 (.ireturn) := ⟨by decide +kernel, rfl⟩
theorem iX4_spread_0 : Ins mX4_spread 0 1 1 (.aload_n 0) := ⟨by decide +kernel, rfl⟩
theorem iX4_spread_1 : Ins mX4_spread 1 4 3 (.getfield 10) := ⟨by decide +kernel, rfl⟩
theorem iX4_spread_4 : Ins mX4_spread 4 5 1 (.iload_n 1) := ⟨by decide +kernel, rfl⟩
theorem iX4_spread_5 : Ins mX4_spread 5 8 3 (.invokevirtual 92) := ⟨by decide +kernel, rfl⟩
theorem iX4_spread_8 : InB mX4_spread 8 11 20 (.ifCond .eq) := ⟨by decide +kernel, rfl⟩
theorem iX4_spread_11 : Ins mX4_spread 11 12 1 (.iload_n 2) := ⟨by decide +kernel, rfl⟩
theorem iX4_spread_12 : Ins mX4_spread 12 14 2 (.bipush 100) := ⟨by decide +kernel, rfl⟩
theorem iX4_spread_14 : Ins mX4_spread 14 17 3 (.invokestatic 44) := ⟨by decide +kernel, rfl⟩
theorem iX4_spread_17 : InB mX4_spread 17 20 26 (.ifCond .ne) := ⟨by decide +kernel, rfl⟩
theorem iX4_spread_20 : Ins mX4_spread 20 21 1 (.aload_n 0) := ⟨by decide +kernel, rfl⟩
theorem iX4_spread_21 : Ins mX4_spread 21 22 1 (.iconst 0) := ⟨by decide +kernel, rfl⟩
theorem iX4_spread_22 : Ins mX4_spread 22 25 3 (.invokevirtual 48) := ⟨by decide +kernel, rfl⟩
theorem iX4_spread_25 : Ins mX4_spread 25 26 1 (.ireturn) := ⟨by decide +kernel, rfl⟩
theorem iX4_spread_26 : Ins mX4_spread 26 27 1 (.aload_n 0) := ⟨by decide +kernel, rfl⟩
theorem iX4_spread_27 : Ins mX4_spread 27 30 3 (.getfield 16) := ⟨by decide +kernel, rfl⟩
theorem iX4_spread_30 : Ins mX4_spread 30 31 1 (.aload_n 0) := ⟨by decide +kernel, rfl⟩
theorem iX4_spread_31 : Ins mX4_spread 31 34 3 (.getfield 10) := ⟨by decide +kernel, rfl⟩
theorem iX4_spread_34 : Ins mX4_spread 34 37 3 (.invokevirtual 147) := ⟨by decide +kernel, rfl⟩
theorem iX4_spread_37 : Ins mX4_spread 37 38 1 (.aload_n 0) := ⟨by decide +kernel, rfl⟩
theorem iX4_spread_38 : Ins mX4_spread 38 41 3 (.getfield 16) := ⟨by decide +kernel, rfl⟩
theorem iX4_spread_41 : Ins mX4_spread 41 42 1 (.iload_n 2) := ⟨by decide +kernel, rfl⟩
theorem iX4_spread_42 : Ins mX4_spread 42 45 3 (.invokevirtual 121) := ⟨by decide +kernel, rfl⟩
theorem iX4_spread_45 : Ins mX4_spread 45 46 1 (.aload_n 0) := ⟨by decide +kernel, rfl⟩
theorem iX4_spread_46 : Ins mX4_spread 46 49 3 (.getfield 16) := ⟨by decide +kernel, rfl⟩
theorem iX4_spread_49 : Ins mX4_spread 49 52 3 (.getfield 101) := ⟨by decide +kernel, rfl⟩
theorem iX4_spread_52 : Ins mX4_spread 52 53 1 (.iload_n 1) := ⟨by decide +kernel, rfl⟩
theorem iX4_spread_53 : Ins mX4_spread 53 54 1 (.iaload) := ⟨by decide +kernel, rfl⟩
theorem iX4_spread_54 : Ins mX4_spread 54 55 1 (.ireturn) := ⟨by decide +kernel, rfl⟩
theorem iX4_when_0 : Ins mX4_when 0 1 1 (.aload_n 0) := ⟨by decide +kernel, rfl⟩
theorem iX4_when_1 : Ins mX4_when 1 4 3 (.getfield 10) := ⟨by decide +kernel, rfl⟩
theorem iX4_when_4 : Ins mX4_when 4 5 1 (.iload_n 1) := ⟨by decide +kernel, rfl⟩
theorem iX4_when_5 : Ins mX4_when 5 8 3 (.invokevirtual 92) := ⟨by decide +kernel, rfl⟩
theorem iX4_when_8 : InB mX4_when 8 11 22 (.ifCond .eq) := ⟨by decide +kernel, rfl⟩
theorem iX4_when_11 : Ins mX4_when 11 12 1 (.aload_n 0) := ⟨by decide +kernel, rfl⟩
theorem iX4_when_12 : Ins mX4_when 12 15 3 (.getfield 10) := ⟨by decide +kernel, rfl⟩
theorem iX4_when_15 : Ins mX4_when 15 16 1 (.iload_n 2) := ⟨by decide +kernel, rfl⟩
theorem iX4_when_16 : Ins mX4_when 16 19 3 (.invokevirtual 63) := ⟨by decide +kernel, rfl⟩
theorem iX4_when_19 : InB mX4_when 19 22 28 (.ifCond .ne) := ⟨by decide +kernel, rfl⟩
theorem iX4_when_22 : Ins mX4_when 22 23 1 (.aload_n 0) := ⟨by decide +kernel, rfl⟩
theorem iX4_when_23 : Ins mX4_when 23 24 1 (.iconst 0) := ⟨by decide +kernel, rfl⟩
theorem iX4_when_24 : Ins mX4_when 24 27 3 (.invokevirtual 48) := ⟨by decide +kernel, rfl⟩
theorem iX4_when_27 : Ins mX4_when 27 28 1 (.ireturn) := ⟨by decide +kernel, rfl⟩
theorem iX4_when_28 : Ins mX4_when 28 29 1 (.aload_n 0) := ⟨by decide +kernel, rfl⟩
theorem iX4_when_29 : Ins mX4_when 29 32 3 (.getfield 16) := ⟨by decide +kernel, rfl⟩
theorem iX4_when_32 : Ins mX4_when 32 33 1 (.aload_n 0) := ⟨by decide +kernel, rfl⟩
theorem iX4_when_33 : Ins mX4_when 33 36 3 (.getfield 10) := ⟨by decide +kernel, rfl⟩
theorem iX4_when_36 : Ins mX4_when 36 39 3 (.invokevirtual 147) := ⟨by decide +kernel, rfl⟩
theorem iX4_when_39 : Ins mX4_when 39 40 1 (.iconst 0) := ⟨by decide +kernel, rfl⟩
theorem iX4_when_40 : Ins mX4_when 40 41 1 (.istore_n 3) := ⟨by decide +kernel, rfl⟩
theorem iX4_when_41 : Ins mX4_when 41 42 1 (.iload_n 3) := ⟨by decide +kernel, rfl⟩
theorem iX4_when_42 : Ins mX4_when 42 45 3 (.sipush 200) := ⟨by decide +kernel, rfl⟩
theorem iX4_when_45 : InB mX4_when 45 48 75 (.if_icmp .gt) := ⟨by decide +kernel, rfl⟩
theorem iX4_when_48 : Ins mX4_when 48 49 1 (.aload_n 0) := ⟨by decide +kernel, rfl⟩
theorem iX4_when_49 : Ins mX4_when 49 52 3 (.getfield 16) := ⟨by decide +kernel, rfl⟩
theorem iX4_when_52 : Ins mX4_when 52 53 1 (.iload_n 1) := ⟨by decide +kernel, rfl⟩
theorem iX4_when_53 : Ins mX4_when 53 54 1 (.iload_n 2) := ⟨by decide +kernel, rfl⟩
theorem iX4_when_54 : Ins mX4_when 54 57 3 (.invokevirtual 104) := ⟨by decide +kernel, rfl⟩
theorem iX4_when_57 : InB mX4_when 57 60 62 (.ifCond .eq) := ⟨by decide +kernel, rfl⟩
theorem iX4_when_60 : Ins mX4_when 60 61 1 (.iload_n 3) := ⟨by decide +kernel, rfl⟩
theorem iX4_when_61 : Ins mX4_when 61 62 1 (.ireturn) := ⟨by decide +kernel, rfl⟩
theorem iX4_when_62 : Ins mX4_when 62 63 1 (.aload_n 0) := ⟨by decide +kernel, rfl⟩
theorem iX4_when_63 : Ins mX4_when 63 66 3 (.getfield 16) := ⟨by decide +kernel, rfl⟩
theorem iX4_when_66 : Ins mX4_when 66 69 3 (.invokevirtual 151) := ⟨by decide +kernel, rfl⟩
theorem iX4_when_69 : Ins mX4_when 69 72 3 (.iinc 3 1) := ⟨by decide +kernel, rfl⟩
theorem iX4_when_72 : InB mX4_when 72 75 41 .goto := ⟨by decide +kernel, rfl⟩
theorem iX4_when_75 : Ins mX4_when 75 76 1 (.aload_n 0) := ⟨by decide +kernel, rfl⟩
theorem iX4_when_76 : Ins mX4_when 76 77 1 (.iconst 3) := ⟨by decide +kernel, rfl⟩
theorem iX4_when_77 : Ins mX4_when 77 80 3 (.invokevirtual 48) := ⟨by decide +kernel, rfl⟩
theorem iX4_when_80 : Ins mX4_when 80 81 1 (.ireturn) := ⟨by decide +kernel, rfl⟩
theorem iX4_blamed_0 : Ins mX4_blamed 0 1 1 (.aload_n 0) := ⟨by decide +kernel, rfl⟩
theorem iX4_blamed_1 : Ins mX4_blamed 1 4 3 (.getfield 10) := ⟨by decide +kernel, rfl⟩
theorem iX4_blamed_4 : Ins mX4_blamed 4 5 1 (.iload_n 1) := ⟨by decide +kernel, rfl⟩
theorem iX4_blamed_5 : Ins mX4_blamed 5 8 3 (.invokevirtual 63) := ⟨by decide +kernel, rfl⟩
theorem iX4_blamed_8 : InB mX4_blamed 8 11 21 (.ifCond .eq) := ⟨by decide +kernel, rfl⟩
theorem iX4_blamed_11 : Ins mX4_blamed 11 12 1 (.iload_n 2) := ⟨by decide +kernel, rfl⟩
theorem iX4_blamed_12 : Ins mX4_blamed 12 15 3 (.sipush 9999) := ⟨by decide +kernel, rfl⟩
theorem iX4_blamed_15 : Ins mX4_blamed 15 18 3 (.invokestatic 44) := ⟨by decide +kernel, rfl⟩
theorem iX4_blamed_18 : InB mX4_blamed 18 21 27 (.ifCond .ne) := ⟨by decide +kernel, rfl⟩
theorem iX4_blamed_21 : Ins mX4_blamed 21 22 1 (.aload_n 0) := ⟨by decide +kernel, rfl⟩
theorem iX4_blamed_22 : Ins mX4_blamed 22 23 1 (.iconst 0) := ⟨by decide +kernel, rfl⟩
theorem iX4_blamed_23 : Ins mX4_blamed 23 26 3 (.invokevirtual 48) := ⟨by decide +kernel, rfl⟩
theorem iX4_blamed_26 : Ins mX4_blamed 26 27 1 (.ireturn) := ⟨by decide +kernel, rfl⟩
theorem iX4_blamed_27 : Ins mX4_blamed 27 28 1 (.aload_n 0) := ⟨by decide +kernel, rfl⟩
theorem iX4_blamed_28 : Ins mX4_blamed 28 31 3 (.getfield 16) := ⟨by decide +kernel, rfl⟩
theorem iX4_blamed_31 : Ins mX4_blamed 31 32 1 (.aload_n 0) := ⟨by decide +kernel, rfl⟩
theorem iX4_blamed_32 : Ins mX4_blamed 32 35 3 (.getfield 10) := ⟨by decide +kernel, rfl⟩
theorem iX4_blamed_35 : Ins mX4_blamed 35 38 3 (.invokevirtual 147) := ⟨by decide +kernel, rfl⟩
theorem iX4_blamed_38 : Ins mX4_blamed 38 39 1 (.iconst 0) := ⟨by decide +kernel, rfl⟩
theorem iX4_blamed_39 : Ins mX4_blamed 39 40 1 (.istore_n 3) := ⟨by decide +kernel, rfl⟩
theorem iX4_blamed_40 : Ins mX4_blamed 40 41 1 (.iload_n 3) := ⟨by decide +kernel, rfl⟩
theorem iX4_blamed_41 : Ins mX4_blamed 41 44 3 (.sipush 200) := ⟨by decide +kernel, rfl⟩
theorem iX4_blamed_44 : InB mX4_blamed 44 47 75 (.if_icmp .gt) := ⟨by decide +kernel, rfl⟩
theorem iX4_blamed_47 : Ins mX4_blamed 47 48 1 (.aload_n 0) := ⟨by decide +kernel, rfl⟩
theorem iX4_blamed_48 : Ins mX4_blamed 48 51 3 (.getfield 16) := ⟨by decide +kernel, rfl⟩
theorem iX4_blamed_51 : Ins mX4_blamed 51 54 3 (.getfield 82) := ⟨by decide +kernel, rfl⟩
theorem iX4_blamed_54 : Ins mX4_blamed 54 55 1 (.iload_n 1) := ⟨by decide +kernel, rfl⟩
theorem iX4_blamed_55 : Ins mX4_blamed 55 56 1 (.iaload) := ⟨by decide +kernel, rfl⟩
theorem iX4_blamed_56 : Ins mX4_blamed 56 57 1 (.iload_n 2) := ⟨by decide +kernel, rfl⟩
theorem iX4_blamed_57 : InB mX4_blamed 57 60 62 (.if_icmp .lt) := ⟨by decide +kernel, rfl⟩
theorem iX4_blamed_60 : Ins mX4_blamed 60 61 1 (.iload_n 3) := ⟨by decide +kernel, rfl⟩
theorem iX4_blamed_61 : Ins mX4_blamed 61 62 1 (.ireturn) := ⟨by decide +kernel, rfl⟩
theorem iX4_blamed_62 : Ins mX4_blamed 62 63 1 (.aload_n 0) := ⟨by decide +kernel, rfl⟩
theorem iX4_blamed_63 : Ins mX4_blamed 63 66 3 (.getfield 16) := ⟨by decide +kernel, rfl⟩
theorem iX4_blamed_66 : Ins mX4_blamed 66 69 3 (.invokevirtual 151) := ⟨by decide +kernel, rfl⟩
theorem iX4_blamed_69 : Ins mX4_blamed 69 72 3 (.iinc 3 1) := ⟨by decide +kernel, rfl⟩
theorem iX4_blamed_72 : InB mX4_blamed 72 75 40 .goto := ⟨by decide +kernel, rfl⟩
theorem iX4_blamed_75 : Ins mX4_blamed 75 76 1 (.aload_n 0) := ⟨by decide +kernel, rfl⟩
theorem iX4_blamed_76 : Ins mX4_blamed 76 77 1 (.iconst 3) := ⟨by decide +kernel, rfl⟩
theorem iX4_blamed_77 : Ins mX4_blamed 77 80 3 (.invokevirtual 48) := ⟨by decide +kernel, rfl⟩
theorem iX4_blamed_80 : Ins mX4_blamed 80 81 1 (.ireturn) := ⟨by decide +kernel, rfl⟩
theorem iX4_fund_0 : Ins mX4_fund 0 1 1 (.iload_n 1) := ⟨by decide +kernel, rfl⟩
theorem iX4_fund_1 : Ins mX4_fund 1 3 2 (.ldc 120) := ⟨by decide +kernel, rfl⟩
theorem iX4_fund_3 : Ins mX4_fund 3 6 3 (.invokestatic 44) := ⟨by decide +kernel, rfl⟩
theorem iX4_fund_6 : InB mX4_fund 6 9 15 (.ifCond .ne) := ⟨by decide +kernel, rfl⟩
theorem iX4_fund_9 : Ins mX4_fund 9 10 1 (.aload_n 0) := ⟨by decide +kernel, rfl⟩
theorem iX4_fund_10 : Ins mX4_fund 10 11 1 (.iconst 0) := ⟨by decide +kernel, rfl⟩
theorem iX4_fund_11 : Ins mX4_fund 11 14 3 (.invokevirtual 48) := ⟨by decide +kernel, rfl⟩
theorem iX4_fund_14 : Ins mX4_fund 14 15 1 (.ireturn) := ⟨by decide +kernel, rfl⟩
theorem iX4_fund_15 : Ins mX4_fund 15 16 1 (.aload_n 0) := ⟨by decide +kernel, rfl⟩
theorem iX4_fund_16 : Ins mX4_fund 16 19 3 (.getfield 16) := ⟨by decide +kernel, rfl⟩
theorem iX4_fund_19 : Ins mX4_fund 19 20 1 (.aload_n 0) := ⟨by decide +kernel, rfl⟩
theorem iX4_fund_20 : Ins mX4_fund 20 23 3 (.getfield 10) := ⟨by decide +kernel, rfl⟩
theorem iX4_fund_23 : Ins mX4_fund 23 26 3 (.invokevirtual 147) := ⟨by decide +kernel, rfl⟩
theorem iX4_fund_26 : Ins mX4_fund 26 27 1 (.iconst 0) := ⟨by decide +kernel, rfl⟩
theorem iX4_fund_27 : Ins mX4_fund 27 28 1 (.istore_n 2) := ⟨by decide +kernel, rfl⟩
theorem iX4_fund_28 : Ins mX4_fund 28 29 1 (.iload_n 2) := ⟨by decide +kernel, rfl⟩
theorem iX4_fund_29 : Ins mX4_fund 29 32 3 (.sipush 200) := ⟨by decide +kernel, rfl⟩
theorem iX4_fund_32 : InB mX4_fund 32 35 61 (.if_icmp .gt) := ⟨by decide +kernel, rfl⟩
theorem iX4_fund_35 : Ins mX4_fund 35 36 1 (.aload_n 0) := ⟨by decide +kernel, rfl⟩
theorem iX4_fund_36 : Ins mX4_fund 36 39 3 (.getfield 16) := ⟨by decide +kernel, rfl⟩
theorem iX4_fund_39 : Ins mX4_fund 39 42 3 (.getfield 125) := ⟨by decide +kernel, rfl⟩
theorem iX4_fund_42 : Ins mX4_fund 42 43 1 (.iload_n 1) := ⟨by decide +kernel, rfl⟩
theorem iX4_fund_43 : InB mX4_fund 43 46 48 (.if_icmp .lt) := ⟨by decide +kernel, rfl⟩
theorem iX4_fund_46 : Ins mX4_fund 46 47 1 (.iload_n 2) := ⟨by decide +kernel, rfl⟩
theorem iX4_fund_47 : Ins mX4_fund 47 48 1 (.ireturn) := ⟨by decide +kernel, rfl⟩
theorem iX4_fund_48 : Ins mX4_fund 48 49 1 (.aload_n 0) := ⟨by decide +kernel, rfl⟩
theorem iX4_fund_49 : Ins mX4_fund 49 52 3 (.getfield 16) := ⟨by decide +kernel, rfl⟩
theorem iX4_fund_52 : Ins mX4_fund 52 55 3 (.invokevirtual 151) := ⟨by decide +kernel, rfl⟩
theorem iX4_fund_55 : Ins mX4_fund 55 58 3 (.iinc 2 1) := ⟨by decide +kernel, rfl⟩
theorem iX4_fund_58 : InB mX4_fund 58 61 28 .goto := ⟨by decide +kernel, rfl⟩
theorem iX4_fund_61 : Ins mX4_fund 61 62 1 (.aload_n 0) := ⟨by decide +kernel, rfl⟩
theorem iX4_fund_62 : Ins mX4_fund 62 63 1 (.iconst 3) := ⟨by decide +kernel, rfl⟩
theorem iX4_fund_63 : Ins mX4_fund 63 66 3 (.invokevirtual 48) := ⟨by decide +kernel, rfl⟩
theorem iX4_fund_66 : Ins mX4_fund 66 67 1 (.ireturn) := ⟨by decide +kernel, rfl⟩
theorem iX4_beginner_0 : Ins mX4_beginner 0 1 1 (.aload_n 0) := ⟨by decide +kernel, rfl⟩
theorem iX4_beginner_1 : Ins mX4_beginner 1 4 3 (.getfield 10) := ⟨by decide +kernel, rfl⟩
theorem iX4_beginner_4 : Ins mX4_beginner 4 5 1 (.iload_n 1) := ⟨by decide +kernel, rfl⟩
theorem iX4_beginner_5 : Ins mX4_beginner 5 8 3 (.invokevirtual 92) := ⟨by decide +kernel, rfl⟩
theorem iX4_beginner_8 : InB mX4_beginner 8 11 20 (.ifCond .eq) := ⟨by decide +kernel, rfl⟩
theorem iX4_beginner_11 : Ins mX4_beginner 11 12 1 (.iload_n 2) := ⟨by decide +kernel, rfl⟩
theorem iX4_beginner_12 : Ins mX4_beginner 12 14 2 (.bipush 60) := ⟨by decide +kernel, rfl⟩
theorem iX4_beginner_14 : Ins mX4_beginner 14 17 3 (.invokestatic 44) := ⟨by decide +kernel, rfl⟩
theorem iX4_beginner_17 : InB mX4_beginner 17 20 26 (.ifCond .ne) := ⟨by decide +kernel, rfl⟩
theorem iX4_beginner_20 : Ins mX4_beginner 20 21 1 (.aload_n 0) := ⟨by decide +kernel, rfl⟩
theorem iX4_beginner_21 : Ins mX4_beginner 21 22 1 (.iconst 0) := ⟨by decide +kernel, rfl⟩
theorem iX4_beginner_22 : Ins mX4_beginner 22 25 3 (.invokevirtual 48) := ⟨by decide +kernel, rfl⟩
theorem iX4_beginner_25 : Ins mX4_beginner 25 26 1 (.ireturn) := ⟨by decide +kernel, rfl⟩
theorem iX4_beginner_26 : Ins mX4_beginner 26 27 1 (.iconst (-1)) := ⟨by decide +kernel, rfl⟩
theorem iX4_beginner_27 : Ins mX4_beginner 27 28 1 (.istore_n 3) := ⟨by decide +kernel, rfl⟩
theorem iX4_beginner_28 : Ins mX4_beginner 28 29 1 (.iconst (-1)) := ⟨by decide +kernel, rfl⟩
theorem iX4_beginner_29 : Ins mX4_beginner 29 31 2 (.istore 4) := ⟨by decide +kernel, rfl⟩
theorem iX4_beginner_31 : Ins mX4_beginner 31 32 1 (.iconst 0) := ⟨by decide +kernel, rfl⟩
theorem iX4_beginner_32 : Ins mX4_beginner 32 34 2 (.istore 5) := ⟨by decide +kernel, rfl⟩
theorem iX4_beginner_34 : Ins mX4_beginner 34 36 2 (.iload 5) := ⟨by decide +kernel, rfl⟩
theorem iX4_beginner_36 : Ins mX4_beginner 36 37 1 (.aload_n 0) := ⟨by decide +kernel, rfl⟩
theorem iX4_beginner_37 : Ins mX4_beginner 37 40 3 (.getfield 10) := ⟨by decide +kernel, rfl⟩
theorem iX4_beginner_40 : Ins mX4_beginner 40 43 3 (.getfield 55) := ⟨by decide +kernel, rfl⟩
theorem iX4_beginner_43 : InB mX4_beginner 43 46 109 (.if_icmp .ge) := ⟨by decide +kernel, rfl⟩
theorem iX4_beginner_46 : Ins mX4_beginner 46 47 1 (.aload_n 0) := ⟨by decide +kernel, rfl⟩
theorem iX4_beginner_47 : Ins mX4_beginner 47 50 3 (.getfield 16) := ⟨by decide +kernel, rfl⟩
theorem iX4_beginner_50 : Ins mX4_beginner 50 51 1 (.aload_n 0) := ⟨by decide +kernel, rfl⟩
theorem iX4_beginner_51 : Ins mX4_beginner 51 54 3 (.getfield 10) := ⟨by decide +kernel, rfl⟩
theorem iX4_beginner_54 : Ins mX4_beginner 54 57 3 (.invokevirtual 147) := ⟨by decide +kernel, rfl⟩
theorem iX4_beginner_57 : Ins mX4_beginner 57 58 1 (.aload_n 0) := ⟨by decide +kernel, rfl⟩
theorem iX4_beginner_58 : Ins mX4_beginner 58 61 3 (.getfield 16) := ⟨by decide +kernel, rfl⟩
theorem iX4_beginner_61 : Ins mX4_beginner 61 62 1 (.iload_n 1) := ⟨by decide +kernel, rfl⟩
theorem iX4_beginner_62 : Ins mX4_beginner 62 64 2 (.iload 5) := ⟨by decide +kernel, rfl⟩
theorem iX4_beginner_64 : Ins mX4_beginner 64 67 3 (.invokevirtual 154) := ⟨by decide +kernel, rfl⟩
theorem iX4_beginner_67 : Ins mX4_beginner 67 68 1 (.aload_n 0) := ⟨by decide +kernel, rfl⟩
theorem iX4_beginner_68 : Ins mX4_beginner 68 71 3 (.getfield 16) := ⟨by decide +kernel, rfl⟩
theorem iX4_beginner_71 : Ins mX4_beginner 71 72 1 (.iload_n 2) := ⟨by decide +kernel, rfl⟩
theorem iX4_beginner_72 : Ins mX4_beginner 72 75 3 (.invokevirtual 121) := ⟨by decide +kernel, rfl⟩
theorem iX4_beginner_75 : Ins mX4_beginner 75 76 1 (.aload_n 0) := ⟨by decide +kernel, rfl⟩
theorem iX4_beginner_76 : Ins mX4_beginner 76 79 3 (.getfield 16) := ⟨by decide +kernel, rfl⟩
theorem iX4_beginner_79 : Ins mX4_beginner 79 82 3 (.getfield 101) := ⟨by decide +kernel, rfl⟩
theorem iX4_beginner_82 : Ins mX4_beginner 82 83 1 (.iload_n 1) := ⟨by decide +kernel, rfl⟩
theorem iX4_beginner_83 : Ins mX4_beginner 83 84 1 (.iaload) := ⟨by decide +kernel, rfl⟩
theorem iX4_beginner_84 : Ins mX4_beginner 84 87 3 (.invokestatic 158) := ⟨by decide +kernel, rfl⟩
theorem iX4_beginner_87 : Ins mX4_beginner 87 89 2 (.istore 6) := ⟨by decide +kernel, rfl⟩
theorem iX4_beginner_89 : Ins mX4_beginner 89 91 2 (.iload 6) := ⟨by decide +kernel, rfl⟩
theorem iX4_beginner_91 : Ins mX4_beginner 91 93 2 (.iload 4) := ⟨by decide +kernel, rfl⟩
theorem iX4_beginner_93 : InB mX4_beginner 93 96 103 (.if_icmp .le) := ⟨by decide +kernel, rfl⟩
theorem iX4_beginner_96 : Ins mX4_beginner 96 98 2 (.iload 6) := ⟨by decide +kernel, rfl⟩
theorem iX4_beginner_98 : Ins mX4_beginner 98 100 2 (.istore 4) := ⟨by decide +kernel, rfl⟩
theorem iX4_beginner_100 : Ins mX4_beginner 100 102 2 (.iload 5) := ⟨by decide +kernel, rfl⟩
theorem iX4_beginner_102 : Ins mX4_beginner 102 103 1 (.istore_n 3) := ⟨by decide +kernel, rfl⟩
theorem iX4_beginner_103 : Ins mX4_beginner 103 106 3 (.iinc 5 1) := ⟨by decide +kernel, rfl⟩
theorem iX4_beginner_106 : InB mX4_beginner 106 109 34 .goto := ⟨by decide +kernel, rfl⟩
theorem iX4_beginner_109 : Ins mX4_beginner 109 110 1 (.iload_n 3) := ⟨by decide +kernel, rfl⟩
theorem iX4_beginner_110 : Ins mX4_beginner 110 111 1 (.iconst (-1)) := ⟨by decide +kernel, rfl⟩
theorem iX4_beginner_111 : InB mX4_beginner 111 114 122 (.if_icmp .ne) := ⟨by decide +kernel, rfl⟩
theorem iX4_beginner_114 : Ins mX4_beginner 114 115 1 (.aload_n 0) := ⟨by decide +kernel, rfl⟩
theorem iX4_beginner_115 : Ins mX4_beginner 115 116 1 (.iconst 3) := ⟨by decide +kernel, rfl⟩
theorem iX4_beginner_116 : Ins mX4_beginner 116 119 3 (.invokevirtual 48) := ⟨by decide +kernel, rfl⟩
theorem iX4_beginner_119 : InB mX4_beginner 119 122 123 .goto := ⟨by decide +kernel, rfl⟩
theorem iX4_beginner_122 : Ins mX4_beginner 122 123 1 (.iload_n 3) := ⟨by decide +kernel, rfl⟩
theorem iX4_beginner_123 : Ins mX4_beginner 123 124 1 (.ireturn) := ⟨by decide +kernel, rfl⟩
theorem iX4_kindFor_0 : Ins mX4_kindFor 0 1 1 (.aload_n 0) := ⟨by decide +kernel, rfl⟩
theorem iX4_kindFor_1 : Ins mX4_kindFor 1 4 3 (.getfield 10) := ⟨by decide +kernel, rfl⟩
theorem iX4_kindFor_4 : Ins mX4_kindFor 4 5 1 (.iload_n 1) := ⟨by decide +kernel, rfl⟩
theorem iX4_kindFor_5 : Ins mX4_kindFor 5 8 3 (.invokevirtual 63) := ⟨by decide +kernel, rfl⟩
theorem iX4_kindFor_8 : InB mX4_kindFor 8 11 20 (.ifCond .eq) := ⟨by decide +kernel, rfl⟩
theorem iX4_kindFor_11 : Ins mX4_kindFor 11 12 1 (.iload_n 2) := ⟨by decide +kernel, rfl⟩
theorem iX4_kindFor_12 : Ins mX4_kindFor 12 14 2 (.bipush 60) := ⟨by decide +kernel, rfl⟩
theorem iX4_kindFor_14 : Ins mX4_kindFor 14 17 3 (.invokestatic 44) := ⟨by decide +kernel, rfl⟩
theorem iX4_kindFor_17 : InB mX4_kindFor 17 20 26 (.ifCond .ne) := ⟨by decide +kernel, rfl⟩
theorem iX4_kindFor_20 : Ins mX4_kindFor 20 21 1 (.aload_n 0) := ⟨by decide +kernel, rfl⟩
theorem iX4_kindFor_21 : Ins mX4_kindFor 21 22 1 (.iconst 0) := ⟨by decide +kernel, rfl⟩
theorem iX4_kindFor_22 : Ins mX4_kindFor 22 25 3 (.invokevirtual 48) := ⟨by decide +kernel, rfl⟩
theorem iX4_kindFor_25 : Ins mX4_kindFor 25 26 1 (.ireturn) := ⟨by decide +kernel, rfl⟩
theorem iX4_kindFor_26 : Ins mX4_kindFor 26 27 1 (.iconst 0) := ⟨by decide +kernel, rfl⟩
theorem iX4_kindFor_27 : Ins mX4_kindFor 27 28 1 (.istore_n 3) := ⟨by decide +kernel, rfl⟩
theorem iX4_kindFor_28 : Ins mX4_kindFor 28 31 3 (.sipush 10000) := ⟨by decide +kernel, rfl⟩
theorem iX4_kindFor_31 : Ins mX4_kindFor 31 33 2 (.istore 4) := ⟨by decide +kernel, rfl⟩
theorem iX4_kindFor_33 : Ins mX4_kindFor 33 34 1 (.iconst 0) := ⟨by decide +kernel, rfl⟩
theorem iX4_kindFor_34 : Ins mX4_kindFor 34 36 2 (.istore 5) := ⟨by decide +kernel, rfl⟩
theorem iX4_kindFor_36 : Ins mX4_kindFor 36 38 2 (.iload 5) := ⟨by decide +kernel, rfl⟩
theorem iX4_kindFor_38 : Ins mX4_kindFor 38 40 2 (.bipush 7) := ⟨by decide +kernel, rfl⟩
theorem iX4_kindFor_40 : InB mX4_kindFor 40 43 107 (.if_icmp .ge) := ⟨by decide +kernel, rfl⟩
theorem iX4_kindFor_43 : Ins mX4_kindFor 43 44 1 (.aload_n 0) := ⟨by decide +kernel, rfl⟩
theorem iX4_kindFor_44 : Ins mX4_kindFor 44 47 3 (.getfield 16) := ⟨by decide +kernel, rfl⟩
theorem iX4_kindFor_47 : Ins mX4_kindFor 47 48 1 (.aload_n 0) := ⟨by decide +kernel, rfl⟩
theorem iX4_kindFor_48 : Ins mX4_kindFor 48 51 3 (.getfield 10) := ⟨by decide +kernel, rfl⟩
theorem iX4_kindFor_51 : Ins mX4_kindFor 51 54 3 (.invokevirtual 147) := ⟨by decide +kernel, rfl⟩
theorem iX4_kindFor_54 : Ins mX4_kindFor 54 55 1 (.aload_n 0) := ⟨by decide +kernel, rfl⟩
theorem iX4_kindFor_55 : Ins mX4_kindFor 55 58 3 (.getfield 16) := ⟨by decide +kernel, rfl⟩
theorem iX4_kindFor_58 : Ins mX4_kindFor 58 61 3 (.getfield 73) := ⟨by decide +kernel, rfl⟩
theorem iX4_kindFor_61 : Ins mX4_kindFor 61 62 1 (.iload_n 1) := ⟨by decide +kernel, rfl⟩
theorem iX4_kindFor_62 : Ins mX4_kindFor 62 64 2 (.iload 5) := ⟨by decide +kernel, rfl⟩
theorem iX4_kindFor_64 : Ins mX4_kindFor 64 65 1 (.iastore) := ⟨by decide +kernel, rfl⟩
theorem iX4_kindFor_65 : Ins mX4_kindFor 65 66 1 (.aload_n 0) := ⟨by decide +kernel, rfl⟩
theorem iX4_kindFor_66 : Ins mX4_kindFor 66 69 3 (.getfield 16) := ⟨by decide +kernel, rfl⟩
theorem iX4_kindFor_69 : Ins mX4_kindFor 69 70 1 (.iload_n 2) := ⟨by decide +kernel, rfl⟩
theorem iX4_kindFor_70 : Ins mX4_kindFor 70 73 3 (.invokevirtual 121) := ⟨by decide +kernel, rfl⟩
theorem iX4_kindFor_73 : Ins mX4_kindFor 73 74 1 (.aload_n 0) := ⟨by decide +kernel, rfl⟩
theorem iX4_kindFor_74 : Ins mX4_kindFor 74 77 3 (.getfield 16) := ⟨by decide +kernel, rfl⟩
theorem iX4_kindFor_77 : Ins mX4_kindFor 77 80 3 (.getfield 82) := ⟨by decide +kernel, rfl⟩
theorem iX4_kindFor_80 : Ins mX4_kindFor 80 81 1 (.iload_n 1) := ⟨by decide +kernel, rfl⟩
theorem iX4_kindFor_81 : Ins mX4_kindFor 81 82 1 (.iaload) := ⟨by decide +kernel, rfl⟩
theorem iX4_kindFor_82 : Ins mX4_kindFor 82 84 2 (.iload 4) := ⟨by decide +kernel, rfl⟩
theorem iX4_kindFor_84 : InB mX4_kindFor 84 87 101 (.if_icmp .ge) := ⟨by decide +kernel, rfl⟩
theorem iX4_kindFor_87 : Ins mX4_kindFor 87 88 1 (.aload_n 0) := ⟨by decide +kernel, rfl⟩
theorem iX4_kindFor_88 : Ins mX4_kindFor 88 91 3 (.getfield 16) := ⟨by decide +kernel, rfl⟩
theorem iX4_kindFor_91 : Ins mX4_kindFor 91 94 3 (.getfield 82) := ⟨by decide +kernel, rfl⟩
theorem iX4_kindFor_94 : Ins mX4_kindFor 94 95 1 (.iload_n 1) := ⟨by decide +kernel, rfl⟩
theorem iX4_kindFor_95 : Ins mX4_kindFor 95 96 1 (.iaload) := ⟨by decide +kernel, rfl⟩
theorem iX4_kindFor_96 : Ins mX4_kindFor 96 98 2 (.istore 4) := ⟨by decide +kernel, rfl⟩
theorem iX4_kindFor_98 : Ins mX4_kindFor 98 100 2 (.iload 5) := ⟨by decide +kernel, rfl⟩
theorem iX4_kindFor_100 : Ins mX4_kindFor 100 101 1 (.istore_n 3) := ⟨by decide +kernel, rfl⟩
theorem iX4_kindFor_101 : Ins mX4_kindFor 101 104 3 (.iinc 5 1) := ⟨by decide +kernel, rfl⟩
theorem iX4_kindFor_104 : InB mX4_kindFor 104 107 36 .goto := ⟨by decide +kernel, rfl⟩
theorem iX4_kindFor_107 : Ins mX4_kindFor 107 108 1 (.iload_n 3) := ⟨by decide +kernel, rfl⟩
theorem iX4_kindFor_108 : Ins mX4_kindFor 108 109 1 (.ireturn) := ⟨by decide +kernel, rfl⟩
theorem iX4_trustFor_0 : Ins mX4_trustFor 0 1 1 (.aload_n 0) := ⟨by decide +kernel, rfl⟩
theorem iX4_trustFor_1 : Ins mX4_trustFor 1 4 3 (.getfield 10) := ⟨by decide +kernel, rfl⟩
theorem iX4_trustFor_4 : Ins mX4_trustFor 4 5 1 (.iload_n 1) := ⟨by decide +kernel, rfl⟩
theorem iX4_trustFor_5 : Ins mX4_trustFor 5 8 3 (.invokevirtual 92) := ⟨by decide +kernel, rfl⟩
theorem iX4_trustFor_8 : InB mX4_trustFor 8 11 31 (.ifCond .eq) := ⟨by decide +kernel, rfl⟩
theorem iX4_trustFor_11 : Ins mX4_trustFor 11 12 1 (.aload_n 0) := ⟨by decide +kernel, rfl⟩
theorem iX4_trustFor_12 : Ins mX4_trustFor 12 15 3 (.getfield 10) := ⟨by decide +kernel, rfl⟩
theorem iX4_trustFor_15 : Ins mX4_trustFor 15 16 1 (.iload_n 2) := ⟨by decide +kernel, rfl⟩
theorem iX4_trustFor_16 : Ins mX4_trustFor 16 19 3 (.invokevirtual 63) := ⟨by decide +kernel, rfl⟩
theorem iX4_trustFor_19 : InB mX4_trustFor 19 22 31 (.ifCond .eq) := ⟨by decide +kernel, rfl⟩
theorem iX4_trustFor_22 : Ins mX4_trustFor 22 23 1 (.iload_n 3) := ⟨by decide +kernel, rfl⟩
theorem iX4_trustFor_23 : Ins mX4_trustFor 23 25 2 (.bipush 60) := ⟨by decide +kernel, rfl⟩
theorem iX4_trustFor_25 : Ins mX4_trustFor 25 28 3 (.invokestatic 44) := ⟨by decide +kernel, rfl⟩
theorem iX4_trustFor_28 : InB mX4_trustFor 28 31 37 (.ifCond .ne) := ⟨by decide +kernel, rfl⟩
theorem iX4_trustFor_31 : Ins mX4_trustFor 31 32 1 (.aload_n 0) := ⟨by decide +kernel, rfl⟩
theorem iX4_trustFor_32 : Ins mX4_trustFor 32 33 1 (.iconst 0) := ⟨by decide +kernel, rfl⟩
theorem iX4_trustFor_33 : Ins mX4_trustFor 33 36 3 (.invokevirtual 48) := ⟨by decide +kernel, rfl⟩
theorem iX4_trustFor_36 : Ins mX4_trustFor 36 37 1 (.ireturn) := ⟨by decide +kernel, rfl⟩
theorem iX4_trustFor_37 : Ins mX4_trustFor 37 38 1 (.iconst 0) := ⟨by decide +kernel, rfl⟩
theorem iX4_trustFor_38 : Ins mX4_trustFor 38 40 2 (.istore 4) := ⟨by decide +kernel, rfl⟩
theorem iX4_trustFor_40 : Ins mX4_trustFor 40 42 2 (.iload 4) := ⟨by decide +kernel, rfl⟩
theorem iX4_trustFor_42 : Ins mX4_trustFor 42 44 2 (.bipush 9) := ⟨by decide +kernel, rfl⟩
theorem iX4_trustFor_44 : InB mX4_trustFor 44 47 98 (.if_icmp .gt) := ⟨by decide +kernel, rfl⟩
theorem iX4_trustFor_47 : Ins mX4_trustFor 47 48 1 (.aload_n 0) := ⟨by decide +kernel, rfl⟩
theorem iX4_trustFor_48 : Ins mX4_trustFor 48 51 3 (.getfield 16) := ⟨by decide +kernel, rfl⟩
theorem iX4_trustFor_51 : Ins mX4_trustFor 51 52 1 (.aload_n 0) := ⟨by decide +kernel, rfl⟩
theorem iX4_trustFor_52 : Ins mX4_trustFor 52 55 3 (.getfield 10) := ⟨by decide +kernel, rfl⟩
theorem iX4_trustFor_55 : Ins mX4_trustFor 55 58 3 (.invokevirtual 147) := ⟨by decide +kernel, rfl⟩
theorem iX4_trustFor_58 : Ins mX4_trustFor 58 59 1 (.aload_n 0) := ⟨by decide +kernel, rfl⟩
theorem iX4_trustFor_59 : Ins mX4_trustFor 59 62 3 (.getfield 16) := ⟨by decide +kernel, rfl⟩
theorem iX4_trustFor_62 : Ins mX4_trustFor 62 65 3 (.getfield 76) := ⟨by decide +kernel, rfl⟩
theorem iX4_trustFor_65 : Ins mX4_trustFor 65 66 1 (.iload_n 2) := ⟨by decide +kernel, rfl⟩
theorem iX4_trustFor_66 : Ins mX4_trustFor 66 68 2 (.iload 4) := ⟨by decide +kernel, rfl⟩
theorem iX4_trustFor_68 : Ins mX4_trustFor 68 69 1 (.iastore) := ⟨by decide +kernel, rfl⟩
theorem iX4_trustFor_69 : Ins mX4_trustFor 69 70 1 (.aload_n 0) := ⟨by decide +kernel, rfl⟩
theorem iX4_trustFor_70 : Ins mX4_trustFor 70 73 3 (.getfield 16) := ⟨by decide +kernel, rfl⟩
theorem iX4_trustFor_73 : Ins mX4_trustFor 73 74 1 (.iload_n 3) := ⟨by decide +kernel, rfl⟩
theorem iX4_trustFor_74 : Ins mX4_trustFor 74 77 3 (.invokevirtual 121) := ⟨by decide +kernel, rfl⟩
theorem iX4_trustFor_77 : Ins mX4_trustFor 77 78 1 (.aload_n 0) := ⟨by decide +kernel, rfl⟩
theorem iX4_trustFor_78 : Ins mX4_trustFor 78 81 3 (.getfield 16) := ⟨by decide +kernel, rfl⟩
theorem iX4_trustFor_81 : Ins mX4_trustFor 81 82 1 (.iload_n 1) := ⟨by decide +kernel, rfl⟩
theorem iX4_trustFor_82 : Ins mX4_trustFor 82 83 1 (.iload_n 2) := ⟨by decide +kernel, rfl⟩
theorem iX4_trustFor_83 : Ins mX4_trustFor 83 86 3 (.invokevirtual 104) := ⟨by decide +kernel, rfl⟩
theorem iX4_trustFor_86 : InB mX4_trustFor 86 89 92 (.ifCond .eq) := ⟨by decide +kernel, rfl⟩
theorem iX4_trustFor_89 : Ins mX4_trustFor 89 91 2 (.iload 4) := ⟨by decide +kernel, rfl⟩
theorem iX4_trustFor_91 : Ins mX4_trustFor 91 92 1 (.ireturn) := ⟨by decide +kernel, rfl⟩
theorem iX4_trustFor_92 : Ins mX4_trustFor 92 95 3 (.iinc 4 1) := ⟨by decide +kernel, rfl⟩
theorem iX4_trustFor_95 : InB mX4_trustFor 95 98 40 .goto := ⟨by decide +kernel, rfl⟩
theorem iX4_trustFor_98 : Ins mX4_trustFor 98 99 1 (.aload_n 0) := ⟨by decide +kernel, rfl⟩
theorem iX4_trustFor_99 : Ins mX4_trustFor 99 100 1 (.iconst 3) := ⟨by decide +kernel, rfl⟩
theorem iX4_trustFor_100 : Ins mX4_trustFor 100 103 3 (.invokevirtual 48) := ⟨by decide +kernel, rfl⟩
theorem iX4_trustFor_103 : Ins mX4_trustFor 103 104 1 (.ireturn) := ⟨by decide +kernel, rfl⟩
theorem iX4_weightFor_0 : Ins mX4_weightFor 0 1 1 (.aload_n 0) := ⟨by decide +kernel, rfl⟩
theorem iX4_weightFor_1 : Ins mX4_weightFor 1 4 3 (.getfield 10) := ⟨by decide +kernel, rfl⟩
theorem iX4_weightFor_4 : Ins mX4_weightFor 4 5 1 (.iload_n 1) := ⟨by decide +kernel, rfl⟩
theorem iX4_weightFor_5 : Ins mX4_weightFor 5 8 3 (.invokevirtual 92) := ⟨by decide +kernel, rfl⟩
theorem iX4_weightFor_8 : InB mX4_weightFor 8 11 20 (.ifCond .eq) := ⟨by decide +kernel, rfl⟩
theorem iX4_weightFor_11 : Ins mX4_weightFor 11 12 1 (.iload_n 2) := ⟨by decide +kernel, rfl⟩
theorem iX4_weightFor_12 : Ins mX4_weightFor 12 14 2 (.bipush 60) := ⟨by decide +kernel, rfl⟩
theorem iX4_weightFor_14 : Ins mX4_weightFor 14 17 3 (.invokestatic 44) := ⟨by decide +kernel, rfl⟩
theorem iX4_weightFor_17 : InB mX4_weightFor 17 20 26 (.ifCond .ne) := ⟨by decide +kernel, rfl⟩
theorem iX4_weightFor_20 : Ins mX4_weightFor 20 21 1 (.aload_n 0) := ⟨by decide +kernel, rfl⟩
theorem iX4_weightFor_21 : Ins mX4_weightFor 21 22 1 (.iconst 0) := ⟨by decide +kernel, rfl⟩
theorem iX4_weightFor_22 : Ins mX4_weightFor 22 25 3 (.invokevirtual 48) := ⟨by decide +kernel, rfl⟩
theorem iX4_weightFor_25 : Ins mX4_weightFor 25 26 1 (.ireturn) := ⟨by decide +kernel, rfl⟩
theorem iX4_weightFor_26 : Ins mX4_weightFor 26 28 2 (.bipush 9) := ⟨by decide +kernel, rfl⟩
theorem iX4_weightFor_28 : Ins mX4_weightFor 28 29 1 (.istore_n 3) := ⟨by decide +kernel, rfl⟩
theorem iX4_weightFor_29 : Ins mX4_weightFor 29 30 1 (.iload_n 3) := ⟨by decide +kernel, rfl⟩
theorem iX4_weightFor_30 : InB mX4_weightFor 30 33 89 (.ifCond .lt) := ⟨by decide +kernel, rfl⟩
theorem iX4_weightFor_33 : Ins mX4_weightFor 33 34 1 (.aload_n 0) := ⟨by decide +kernel, rfl⟩
theorem iX4_weightFor_34 : Ins mX4_weightFor 34 37 3 (.getfield 16) := ⟨by decide +kernel, rfl⟩
theorem iX4_weightFor_37 : Ins mX4_weightFor 37 38 1 (.aload_n 0) := ⟨by decide +kernel, rfl⟩
theorem iX4_weightFor_38 : Ins mX4_weightFor 38 41 3 (.getfield 10) := ⟨by decide +kernel, rfl⟩
theorem iX4_weightFor_41 : Ins mX4_weightFor 41 44 3 (.invokevirtual 147) := ⟨by decide +kernel, rfl⟩
theorem iX4_weightFor_44 : Ins mX4_weightFor 44 45 1 (.aload_n 0) := ⟨by decide +kernel, rfl⟩
theorem iX4_weightFor_45 : Ins mX4_weightFor 45 48 3 (.getfield 16) := ⟨by decide +kernel, rfl⟩
theorem iX4_weightFor_48 : Ins mX4_weightFor 48 51 3 (.getfield 98) := ⟨by decide +kernel, rfl⟩
theorem iX4_weightFor_51 : Ins mX4_weightFor 51 52 1 (.iload_n 1) := ⟨by decide +kernel, rfl⟩
theorem iX4_weightFor_52 : Ins mX4_weightFor 52 53 1 (.iload_n 3) := ⟨by decide +kernel, rfl⟩
theorem iX4_weightFor_53 : Ins mX4_weightFor 53 54 1 (.iastore) := ⟨by decide +kernel, rfl⟩
theorem iX4_weightFor_54 : Ins mX4_weightFor 54 55 1 (.aload_n 0) := ⟨by decide +kernel, rfl⟩
theorem iX4_weightFor_55 : Ins mX4_weightFor 55 58 3 (.getfield 16) := ⟨by decide +kernel, rfl⟩
theorem iX4_weightFor_58 : Ins mX4_weightFor 58 59 1 (.iload_n 2) := ⟨by decide +kernel, rfl⟩
theorem iX4_weightFor_59 : Ins mX4_weightFor 59 62 3 (.invokevirtual 121) := ⟨by decide +kernel, rfl⟩
theorem iX4_weightFor_62 : Ins mX4_weightFor 62 63 1 (.aload_n 0) := ⟨by decide +kernel, rfl⟩
theorem iX4_weightFor_63 : Ins mX4_weightFor 63 66 3 (.getfield 16) := ⟨by decide +kernel, rfl⟩
theorem iX4_weightFor_66 : Ins mX4_weightFor 66 69 3 (.getfield 101) := ⟨by decide +kernel, rfl⟩
theorem iX4_weightFor_69 : Ins mX4_weightFor 69 70 1 (.iload_n 1) := ⟨by decide +kernel, rfl⟩
theorem iX4_weightFor_70 : Ins mX4_weightFor 70 71 1 (.iaload) := ⟨by decide +kernel, rfl⟩
theorem iX4_weightFor_71 : Ins mX4_weightFor 71 72 1 (.aload_n 0) := ⟨by decide +kernel, rfl⟩
theorem iX4_weightFor_72 : Ins mX4_weightFor 72 75 3 (.getfield 16) := ⟨by decide +kernel, rfl⟩
theorem iX4_weightFor_75 : Ins mX4_weightFor 75 78 3 (.invokevirtual 163) := ⟨by decide +kernel, rfl⟩
theorem iX4_weightFor_78 : InB mX4_weightFor 78 81 83 (.if_icmp .ne) := ⟨by decide +kernel, rfl⟩
theorem iX4_weightFor_81 : Ins mX4_weightFor 81 82 1 (.iload_n 3) := ⟨by decide +kernel, rfl⟩
theorem iX4_weightFor_82 : Ins mX4_weightFor 82 83 1 (.ireturn) := ⟨by decide +kernel, rfl⟩
theorem iX4_weightFor_83 : Ins mX4_weightFor 83 86 3 (.iinc 3 (-1)) := ⟨by decide +kernel, rfl⟩
theorem iX4_weightFor_86 : InB mX4_weightFor 86 89 29 .goto := ⟨by decide +kernel, rfl⟩
theorem iX4_weightFor_89 : Ins mX4_weightFor 89 90 1 (.aload_n 0) := ⟨by decide +kernel, rfl⟩
theorem iX4_weightFor_90 : Ins mX4_weightFor 90 91 1 (.iconst 3) := ⟨by decide +kernel, rfl⟩
theorem iX4_weightFor_91 : Ins mX4_weightFor 91 94 3 (.invokevirtual 48) := ⟨by decide +kernel, rfl⟩
theorem iX4_weightFor_94 : Ins mX4_weightFor 94 95 1 (.ireturn) := ⟨by decide +kernel, rfl⟩
theorem iX4_hush_0 : Ins mX4_hush 0 1 1 (.aload_n 0) := ⟨by decide +kernel, rfl⟩
theorem iX4_hush_1 : Ins mX4_hush 1 4 3 (.getfield 10) := ⟨by decide +kernel, rfl⟩
theorem iX4_hush_4 : Ins mX4_hush 4 5 1 (.iload_n 1) := ⟨by decide +kernel, rfl⟩
theorem iX4_hush_5 : Ins mX4_hush 5 8 3 (.invokevirtual 92) := ⟨by decide +kernel, rfl⟩
theorem iX4_hush_8 : InB mX4_hush 8 11 31 (.ifCond .eq) := ⟨by decide +kernel, rfl⟩
theorem iX4_hush_11 : Ins mX4_hush 11 12 1 (.aload_n 0) := ⟨by decide +kernel, rfl⟩
theorem iX4_hush_12 : Ins mX4_hush 12 15 3 (.getfield 10) := ⟨by decide +kernel, rfl⟩
theorem iX4_hush_15 : Ins mX4_hush 15 16 1 (.iload_n 2) := ⟨by decide +kernel, rfl⟩
theorem iX4_hush_16 : Ins mX4_hush 16 19 3 (.invokevirtual 63) := ⟨by decide +kernel, rfl⟩
theorem iX4_hush_19 : InB mX4_hush 19 22 31 (.ifCond .eq) := ⟨by decide +kernel, rfl⟩
theorem iX4_hush_22 : Ins mX4_hush 22 23 1 (.iload_n 3) := ⟨by decide +kernel, rfl⟩
theorem iX4_hush_23 : Ins mX4_hush 23 25 2 (.bipush 20) := ⟨by decide +kernel, rfl⟩
theorem iX4_hush_25 : Ins mX4_hush 25 28 3 (.invokestatic 44) := ⟨by decide +kernel, rfl⟩
theorem iX4_hush_28 : InB mX4_hush 28 31 37 (.ifCond .ne) := ⟨by decide +kernel, rfl⟩
theorem iX4_hush_31 : Ins mX4_hush 31 32 1 (.aload_n 0) := ⟨by decide +kernel, rfl⟩
theorem iX4_hush_32 : Ins mX4_hush 32 33 1 (.iconst 0) := ⟨by decide +kernel, rfl⟩
theorem iX4_hush_33 : Ins mX4_hush 33 36 3 (.invokevirtual 48) := ⟨by decide +kernel, rfl⟩
theorem iX4_hush_36 : Ins mX4_hush 36 37 1 (.ireturn) := ⟨by decide +kernel, rfl⟩
theorem iX4_hush_37 : Ins mX4_hush 37 38 1 (.aload_n 0) := ⟨by decide +kernel, rfl⟩
theorem iX4_hush_38 : Ins mX4_hush 38 41 3 (.getfield 10) := ⟨by decide +kernel, rfl⟩
theorem iX4_hush_41 : Ins mX4_hush 41 42 1 (.iload_n 1) := ⟨by decide +kernel, rfl⟩
theorem iX4_hush_42 : Ins mX4_hush 42 43 1 (.iload_n 2) := ⟨by decide +kernel, rfl⟩
theorem iX4_hush_43 : Ins mX4_hush 43 46 3 (.invokevirtual 104) := ⟨by decide +kernel, rfl⟩
theorem iX4_hush_46 : InB mX4_hush 46 49 55 (.ifCond .eq) := ⟨by decide +kernel, rfl⟩
theorem iX4_hush_49 : Ins mX4_hush 49 50 1 (.aload_n 0) := ⟨by decide +kernel, rfl⟩
theorem iX4_hush_50 : Ins mX4_hush 50 51 1 (.iconst 3) := ⟨by decide +kernel, rfl⟩
theorem iX4_hush_51 : Ins mX4_hush 51 54 3 (.invokevirtual 48) := ⟨by decide +kernel, rfl⟩
theorem iX4_hush_54 : Ins mX4_hush 54 55 1 (.ireturn) := ⟨by decide +kernel, rfl⟩
theorem iX4_hush_55 : Ins mX4_hush 55 56 1 (.iconst 0) := ⟨by decide +kernel, rfl⟩
theorem iX4_hush_56 : Ins mX4_hush 56 58 2 (.istore 4) := ⟨by decide +kernel, rfl⟩
theorem iX4_hush_58 : Ins mX4_hush 58 60 2 (.iload 4) := ⟨by decide +kernel, rfl⟩
theorem iX4_hush_60 : Ins mX4_hush 60 61 1 (.aload_n 0) := ⟨by decide +kernel, rfl⟩
theorem iX4_hush_61 : Ins mX4_hush 61 64 3 (.getfield 10) := ⟨by decide +kernel, rfl⟩
theorem iX4_hush_64 : Ins mX4_hush 64 67 3 (.getfield 55) := ⟨by decide +kernel, rfl⟩
theorem iX4_hush_67 : InB mX4_hush 67 70 122 (.if_icmp .gt) := ⟨by decide +kernel, rfl⟩
theorem iX4_hush_70 : Ins mX4_hush 70 71 1 (.iconst 0) := ⟨by decide +kernel, rfl⟩
theorem iX4_hush_71 : Ins mX4_hush 71 73 2 (.istore 5) := ⟨by decide +kernel, rfl⟩
theorem iX4_hush_73 : Ins mX4_hush 73 75 2 (.iload 5) := ⟨by decide +kernel, rfl⟩
theorem iX4_hush_75 : Ins mX4_hush 75 76 1 (.aload_n 0) := ⟨by decide +kernel, rfl⟩
theorem iX4_hush_76 : Ins mX4_hush 76 79 3 (.getfield 10) := ⟨by decide +kernel, rfl⟩
theorem iX4_hush_79 : Ins mX4_hush 79 82 3 (.invokevirtual 163) := ⟨by decide +kernel, rfl⟩
theorem iX4_hush_82 : InB mX4_hush 82 85 116 (.if_icmp .gt) := ⟨by decide +kernel, rfl⟩
theorem iX4_hush_85 : Ins mX4_hush 85 87 2 (.iload 5) := ⟨by decide +kernel, rfl⟩
theorem iX4_hush_87 : Ins mX4_hush 87 90 3 (.invokestatic 158) := ⟨by decide +kernel, rfl⟩
theorem iX4_hush_90 : Ins mX4_hush 90 92 2 (.iload 4) := ⟨by decide +kernel, rfl⟩
theorem iX4_hush_92 : InB mX4_hush 92 95 110 (.if_icmp .ne) := ⟨by decide +kernel, rfl⟩
theorem iX4_hush_95 : Ins mX4_hush 95 96 1 (.aload_n 0) := ⟨by decide +kernel, rfl⟩
theorem iX4_hush_96 : Ins mX4_hush 96 98 2 (.iload 5) := ⟨by decide +kernel, rfl⟩
theorem iX4_hush_98 : Ins mX4_hush 98 99 1 (.iload_n 1) := ⟨by decide +kernel, rfl⟩
theorem iX4_hush_99 : Ins mX4_hush 99 100 1 (.iload_n 2) := ⟨by decide +kernel, rfl⟩
theorem iX4_hush_100 : Ins mX4_hush 100 101 1 (.iload_n 3) := ⟨by decide +kernel, rfl⟩
theorem iX4_hush_101 : Ins mX4_hush 101 104 3 (.invokevirtual 166) := ⟨by decide +kernel, rfl⟩
theorem iX4_hush_104 : InB mX4_hush 104 107 110 (.ifCond .eq) := ⟨by decide +kernel, rfl⟩
theorem iX4_hush_107 : Ins mX4_hush 107 109 2 (.iload 5) := ⟨by decide +kernel, rfl⟩
theorem iX4_hush_109 : Ins mX4_hush 109 110 1 (.ireturn) := ⟨by decide +kernel, rfl⟩
theorem iX4_hush_110 : Ins mX4_hush 110 113 3 (.iinc 5 1) := ⟨by decide +kernel, rfl⟩
theorem iX4_hush_113 : InB mX4_hush 113 116 73 .goto := ⟨by decide +kernel, rfl⟩
theorem iX4_hush_116 : Ins mX4_hush 116 119 3 (.iinc 4 1) := ⟨by decide +kernel, rfl⟩
theorem iX4_hush_119 : InB mX4_hush 119 122 58 .goto := ⟨by decide +kernel, rfl⟩
theorem iX4_hush_122 : Ins mX4_hush 122 123 1 (.aload_n 0) := ⟨by decide +kernel, rfl⟩
theorem iX4_hush_123 : Ins mX4_hush 123 124 1 (.iconst 3) := ⟨by decide +kernel, rfl⟩
theorem iX4_hush_124 : Ins mX4_hush 124 127 3 (.invokevirtual 48) := ⟨by decide +kernel, rfl⟩
theorem iX4_hush_127 : Ins mX4_hush 127 128 1 (.ireturn) := ⟨by decide +kernel, rfl⟩
theorem iX4_keepsFrom_0 : Ins mX4_keepsFrom 0 1 1 (.aload_n 0) := ⟨by decide +kernel, rfl⟩
theorem iX4_keepsFrom_1 : Ins mX4_keepsFrom 1 4 3 (.getfield 16) := ⟨by decide +kernel, rfl⟩
theorem iX4_keepsFrom_4 : Ins mX4_keepsFrom 4 5 1 (.aload_n 0) := ⟨by decide +kernel, rfl⟩
theorem iX4_keepsFrom_5 : Ins mX4_keepsFrom 5 8 3 (.getfield 10) := ⟨by decide +kernel, rfl⟩
theorem iX4_keepsFrom_8 : Ins mX4_keepsFrom 8 11 3 (.invokevirtual 147) := ⟨by decide +kernel, rfl⟩
theorem iX4_keepsFrom_11 : Ins mX4_keepsFrom 11 12 1 (.aload_n 0) := ⟨by decide +kernel, rfl⟩
theorem iX4_keepsFrom_12 : Ins mX4_keepsFrom 12 15 3 (.getfield 16) := ⟨by decide +kernel, rfl⟩
theorem iX4_keepsFrom_15 : Ins mX4_keepsFrom 15 16 1 (.iload_n 1) := ⟨by decide +kernel, rfl⟩
theorem iX4_keepsFrom_16 : Ins mX4_keepsFrom 16 19 3 (.invokevirtual 170) := ⟨by decide +kernel, rfl⟩
theorem iX4_keepsFrom_19 : Ins mX4_keepsFrom 19 20 1 (.aload_n 0) := ⟨by decide +kernel, rfl⟩
theorem iX4_keepsFrom_20 : Ins mX4_keepsFrom 20 23 3 (.getfield 16) := ⟨by decide +kernel, rfl⟩
theorem iX4_keepsFrom_23 : Ins mX4_keepsFrom 23 25 2 (.iload 4) := ⟨by decide +kernel, rfl⟩
theorem iX4_keepsFrom_25 : Ins mX4_keepsFrom 25 28 3 (.invokevirtual 121) := ⟨by decide +kernel, rfl⟩
theorem iX4_keepsFrom_28 : Ins mX4_keepsFrom 28 29 1 (.aload_n 0) := ⟨by decide +kernel, rfl⟩
theorem iX4_keepsFrom_29 : Ins mX4_keepsFrom 29 32 3 (.getfield 16) := ⟨by decide +kernel, rfl⟩
theorem iX4_keepsFrom_32 : Ins mX4_keepsFrom 32 33 1 (.iload_n 2) := ⟨by decide +kernel, rfl⟩
theorem iX4_keepsFrom_33 : Ins mX4_keepsFrom 33 34 1 (.iload_n 3) := ⟨by decide +kernel, rfl⟩
theorem iX4_keepsFrom_34 : Ins mX4_keepsFrom 34 37 3 (.invokevirtual 104) := ⟨by decide +kernel, rfl⟩
theorem iX4_keepsFrom_37 : InB mX4_keepsFrom 37 40 44 (.ifCond .ne) := ⟨by decide +kernel, rfl⟩
theorem iX4_keepsFrom_40 : Ins mX4_keepsFrom 40 41 1 (.iconst 1) := ⟨by decide +kernel, rfl⟩
theorem iX4_keepsFrom_41 : InB mX4_keepsFrom 41 44 45 .goto := ⟨by decide +kernel, rfl⟩
theorem iX4_keepsFrom_44 : Ins mX4_keepsFrom 44 45 1 (.iconst 0) := ⟨by decide +kernel, rfl⟩
theorem iX4_keepsFrom_45 : Ins mX4_keepsFrom 45 46 1 (.ireturn) := ⟨by decide +kernel, rfl⟩
theorem iX4_fits_0 : Ins mX4_fits 0 1 1 (.iload_n 1) := ⟨by decide +kernel, rfl⟩
theorem iX4_fits_1 : Ins mX4_fits 1 2 1 (.iconst 3) := ⟨by decide +kernel, rfl⟩
theorem iX4_fits_2 : Ins mX4_fits 2 5 3 (.invokestatic 44) := ⟨by decide +kernel, rfl⟩
theorem iX4_fits_5 : InB mX4_fits 5 8 14 (.ifCond .ne) := ⟨by decide +kernel, rfl⟩
theorem iX4_fits_8 : Ins mX4_fits 8 9 1 (.aload_n 0) := ⟨by decide +kernel, rfl⟩
theorem iX4_fits_9 : Ins mX4_fits 9 10 1 (.iconst 0) := ⟨by decide +kernel, rfl⟩
theorem iX4_fits_10 : Ins mX4_fits 10 13 3 (.invokevirtual 48) := ⟨by decide +kernel, rfl⟩
theorem iX4_fits_13 : Ins mX4_fits 13 14 1 (.ireturn) := ⟨by decide +kernel, rfl⟩
theorem iX4_fits_14 : Ins mX4_fits 14 15 1 (.aload_n 0) := ⟨by decide +kernel, rfl⟩
theorem iX4_fits_15 : Ins mX4_fits 15 18 3 (.getfield 35) := ⟨by decide +kernel, rfl⟩
theorem iX4_fits_18 : Ins mX4_fits 18 19 1 (.iload_n 1) := ⟨by decide +kernel, rfl⟩
theorem iX4_fits_19 : Ins mX4_fits 19 20 1 (.aaload) := ⟨by decide +kernel, rfl⟩
theorem iX4_fits_20 : Ins mX4_fits 20 23 3 (.getfield 173) := ⟨by decide +kernel, rfl⟩
theorem iX4_fits_23 : InB mX4_fits 23 26 32 (.ifCond .ne) := ⟨by decide +kernel, rfl⟩
theorem iX4_fits_26 : Ins mX4_fits 26 27 1 (.aload_n 0) := ⟨by decide +kernel, rfl⟩
theorem iX4_fits_27 : Ins mX4_fits 27 28 1 (.iconst 5) := ⟨by decide +kernel, rfl⟩
theorem iX4_fits_28 : Ins mX4_fits 28 31 3 (.invokevirtual 48) := ⟨by decide +kernel, rfl⟩
theorem iX4_fits_31 : Ins mX4_fits 31 32 1 (.ireturn) := ⟨by decide +kernel, rfl⟩
theorem iX4_fits_32 : Ins mX4_fits 32 33 1 (.aload_n 0) := ⟨by decide +kernel, rfl⟩
theorem iX4_fits_33 : Ins mX4_fits 33 36 3 (.getfield 10) := ⟨by decide +kernel, rfl⟩
theorem iX4_fits_36 : Ins mX4_fits 36 37 1 (.iload_n 2) := ⟨by decide +kernel, rfl⟩
theorem iX4_fits_37 : Ins mX4_fits 37 40 3 (.invokevirtual 92) := ⟨by decide +kernel, rfl⟩
theorem iX4_fits_40 : InB mX4_fits 40 43 49 (.ifCond .ne) := ⟨by decide +kernel, rfl⟩
theorem iX4_fits_43 : Ins mX4_fits 43 44 1 (.aload_n 0) := ⟨by decide +kernel, rfl⟩
theorem iX4_fits_44 : Ins mX4_fits 44 45 1 (.iconst 0) := ⟨by decide +kernel, rfl⟩
theorem iX4_fits_45 : Ins mX4_fits 45 48 3 (.invokevirtual 48) := ⟨by decide +kernel, rfl⟩
theorem iX4_fits_48 : Ins mX4_fits 48 49 1 (.ireturn) := ⟨by decide +kernel, rfl⟩
theorem iX4_fits_49 : Ins mX4_fits 49 50 1 (.iconst 0) := ⟨by decide +kernel, rfl⟩
theorem iX4_fits_50 : Ins mX4_fits 50 51 1 (.istore_n 3) := ⟨by decide +kernel, rfl⟩
theorem iX4_fits_51 : Ins mX4_fits 51 52 1 (.iconst 0) := ⟨by decide +kernel, rfl⟩
theorem iX4_fits_52 : Ins mX4_fits 52 54 2 (.istore 4) := ⟨by decide +kernel, rfl⟩
theorem iX4_fits_54 : Ins mX4_fits 54 56 2 (.iload 4) := ⟨by decide +kernel, rfl⟩
theorem iX4_fits_56 : Ins mX4_fits 56 58 2 (.bipush 8) := ⟨by decide +kernel, rfl⟩
theorem iX4_fits_58 : InB mX4_fits 58 61 122 (.if_icmp .ge) := ⟨by decide +kernel, rfl⟩
theorem iX4_fits_61 : Ins mX4_fits 61 62 1 (.iconst 0) := ⟨by decide +kernel, rfl⟩
theorem iX4_fits_62 : Ins mX4_fits 62 64 2 (.istore 5) := ⟨by decide +kernel, rfl⟩
theorem iX4_fits_64 : Ins mX4_fits 64 66 2 (.iload 5) := ⟨by decide +kernel, rfl⟩
theorem iX4_fits_66 : Ins mX4_fits 66 68 2 (.bipush 8) := ⟨by decide +kernel, rfl⟩
theorem iX4_fits_68 : InB mX4_fits 68 71 116 (.if_icmp .ge) := ⟨by decide +kernel, rfl⟩
theorem iX4_fits_71 : Ins mX4_fits 71 72 1 (.aload_n 0) := ⟨by decide +kernel, rfl⟩
theorem iX4_fits_72 : Ins mX4_fits 72 75 3 (.getfield 16) := ⟨by decide +kernel, rfl⟩
theorem iX4_fits_75 : Ins mX4_fits 75 76 1 (.aload_n 0) := ⟨by decide +kernel, rfl⟩
theorem iX4_fits_76 : Ins mX4_fits 76 79 3 (.getfield 10) := ⟨by decide +kernel, rfl⟩
theorem iX4_fits_79 : Ins mX4_fits 79 82 3 (.invokevirtual 147) := ⟨by decide +kernel, rfl⟩
theorem iX4_fits_82 : Ins mX4_fits 82 83 1 (.aload_n 0) := ⟨by decide +kernel, rfl⟩
theorem iX4_fits_83 : Ins mX4_fits 83 86 3 (.getfield 16) := ⟨by decide +kernel, rfl⟩
theorem iX4_fits_86 : Ins mX4_fits 86 88 2 (.iload 4) := ⟨by decide +kernel, rfl⟩
theorem iX4_fits_88 : Ins mX4_fits 88 90 2 (.iload 5) := ⟨by decide +kernel, rfl⟩
theorem iX4_fits_90 : Ins mX4_fits 90 93 3 (.invokevirtual 176) := ⟨by decide +kernel, rfl⟩
theorem iX4_fits_93 : Ins mX4_fits 93 94 1 (.aload_n 0) := ⟨by decide +kernel, rfl⟩
theorem iX4_fits_94 : Ins mX4_fits 94 95 1 (.aload_n 0) := ⟨by decide +kernel, rfl⟩
theorem iX4_fits_95 : Ins mX4_fits 95 98 3 (.getfield 35) := ⟨by decide +kernel, rfl⟩
theorem iX4_fits_98 : Ins mX4_fits 98 99 1 (.iload_n 1) := ⟨by decide +kernel, rfl⟩
theorem iX4_fits_99 : Ins mX4_fits 99 100 1 (.aaload) := ⟨by decide +kernel, rfl⟩
theorem iX4_fits_100 : Ins mX4_fits 100 101 1 (.iload_n 2) := ⟨by decide +kernel, rfl⟩
theorem iX4_fits_101 : Ins mX4_fits 101 104 3 (.invokevirtual 179) := ⟨by decide +kernel, rfl⟩
theorem iX4_fits_104 : InB mX4_fits 104 107 110 (.ifCond .eq) := ⟨by decide +kernel, rfl⟩
theorem iX4_fits_107 : Ins mX4_fits 107 110 3 (.iinc 3 1) := ⟨by decide +kernel, rfl⟩
theorem iX4_fits_110 : Ins mX4_fits 110 113 3 (.iinc 5 1) := ⟨by decide +kernel, rfl⟩
theorem iX4_fits_113 : InB mX4_fits 113 116 64 .goto := ⟨by decide +kernel, rfl⟩
theorem iX4_fits_116 : Ins mX4_fits 116 119 3 (.iinc 4 1) := ⟨by decide +kernel, rfl⟩
theorem iX4_fits_119 : InB mX4_fits 119 122 54 .goto := ⟨by decide +kernel, rfl⟩
theorem iX4_fits_122 : Ins mX4_fits 122 123 1 (.iload_n 3) := ⟨by decide +kernel, rfl⟩
theorem iX4_fits_123 : Ins mX4_fits 123 124 1 (.ireturn) := ⟨by decide +kernel, rfl⟩
theorem iX4_hearersAreAsTold_0 : Ins mX4_hearersAreAsTold 0 1 1 (.iconst 0) := ⟨by decide +kernel, rfl⟩
theorem iX4_hearersAreAsTold_1 : Ins mX4_hearersAreAsTold 1 2 1 (.istore_n 3) := ⟨by decide +kernel, rfl⟩
theorem iX4_hearersAreAsTold_2 : Ins mX4_hearersAreAsTold 2 3 1 (.iload_n 3) := ⟨by decide +kernel, rfl⟩
theorem iX4_hearersAreAsTold_3 : Ins mX4_hearersAreAsTold 3 4 1 (.aload_n 1) := ⟨by decide +kernel, rfl⟩
theorem iX4_hearersAreAsTold_4 : Ins mX4_hearersAreAsTold 4 7 3 (.getfield 183) := ⟨by decide +kernel, rfl⟩
theorem iX4_hearersAreAsTold_7 : InB mX4_hearersAreAsTold 7 10 46 (.if_icmp .ge) := ⟨by decide +kernel, rfl⟩
theorem iX4_hearersAreAsTold_10 : Ins mX4_hearersAreAsTold 10 11 1 (.iload_n 3) := ⟨by decide +kernel, rfl⟩
theorem iX4_hearersAreAsTold_11 : InB mX4_hearersAreAsTold 11 14 21 (.ifCond .le) := ⟨by decide +kernel, rfl⟩
theorem iX4_hearersAreAsTold_14 : Ins mX4_hearersAreAsTold 14 15 1 (.aload_n 0) := ⟨by decide +kernel, rfl⟩
theorem iX4_hearersAreAsTold_15 : Ins mX4_hearersAreAsTold 15 18 3 (.getfield 16) := ⟨by decide +kernel, rfl⟩
theorem iX4_hearersAreAsTold_18 : Ins mX4_hearersAreAsTold 18 21 3 (.invokevirtual 151) := ⟨by decide +kernel, rfl⟩
theorem iX4_hearersAreAsTold_21 : Ins mX4_hearersAreAsTold 21 22 1 (.aload_n 1) := ⟨by decide +kernel, rfl⟩
theorem iX4_hearersAreAsTold_22 : Ins mX4_hearersAreAsTold 22 23 1 (.iload_n 3) := ⟨by decide +kernel, rfl⟩
theorem iX4_hearersAreAsTold_23 : Ins mX4_hearersAreAsTold 23 24 1 (.aload_n 0) := ⟨by decide +kernel, rfl⟩
theorem iX4_hearersAreAsTold_24 : Ins mX4_hearersAreAsTold 24 27 3 (.getfield 16) := ⟨by decide +kernel, rfl⟩
theorem iX4_hearersAreAsTold_27 : Ins mX4_hearersAreAsTold 27 30 3 (.getfield 101) := ⟨by decide +kernel, rfl⟩
theorem iX4_hearersAreAsTold_30 : Ins mX4_hearersAreAsTold 30 31 1 (.iload_n 2) := ⟨by decide +kernel, rfl⟩
theorem iX4_hearersAreAsTold_31 : Ins mX4_hearersAreAsTold 31 32 1 (.iaload) := ⟨by decide +kernel, rfl⟩
theorem iX4_hearersAreAsTold_32 : Ins mX4_hearersAreAsTold 32 35 3 (.invokevirtual 186) := ⟨by decide +kernel, rfl⟩
theorem iX4_hearersAreAsTold_35 : InB mX4_hearersAreAsTold 35 38 40 (.ifCond .ne) := ⟨by decide +kernel, rfl⟩
theorem iX4_hearersAreAsTold_38 : Ins mX4_hearersAreAsTold 38 39 1 (.iconst 0) := ⟨by decide +kernel, rfl⟩
theorem iX4_hearersAreAsTold_39 : Ins mX4_hearersAreAsTold 39 40 1 (.ireturn) := ⟨by decide +kernel, rfl⟩
theorem iX4_hearersAreAsTold_40 : Ins mX4_hearersAreAsTold 40 43 3 (.iinc 3 1) := ⟨by decide +kernel, rfl⟩
theorem iX4_hearersAreAsTold_43 : InB mX4_hearersAreAsTold 43 46 2 .goto := ⟨by decide +kernel, rfl⟩
theorem iX4_hearersAreAsTold_46 : Ins mX4_hearersAreAsTold 46 47 1 (.iconst 1) := ⟨by decide +kernel, rfl⟩
theorem iX4_hearersAreAsTold_47 : Ins mX4_hearersAreAsTold 47 48 1 (.ireturn) := ⟨by decide +kernel, rfl⟩
theorem iX4_kinds_0 : Ins mX4_kinds 0 1 1 (.iload_n 1) := ⟨by decide +kernel, rfl⟩
theorem iX4_kinds_1 : Ins mX4_kinds 1 2 1 (.iconst 3) := ⟨by decide +kernel, rfl⟩
theorem iX4_kinds_2 : Ins mX4_kinds 2 5 3 (.invokestatic 44) := ⟨by decide +kernel, rfl⟩
theorem iX4_kinds_5 : InB mX4_kinds 5 8 14 (.ifCond .ne) := ⟨by decide +kernel, rfl⟩
theorem iX4_kinds_8 : Ins mX4_kinds 8 9 1 (.aload_n 0) := ⟨by decide +kernel, rfl⟩
theorem iX4_kinds_9 : Ins mX4_kinds 9 10 1 (.iconst 0) := ⟨by decide +kernel, rfl⟩
theorem iX4_kinds_10 : Ins mX4_kinds 10 13 3 (.invokevirtual 48) := ⟨by decide +kernel, rfl⟩
theorem iX4_kinds_13 : Ins mX4_kinds 13 14 1 (.ireturn) := ⟨by decide +kernel, rfl⟩
theorem iX4_kinds_14 : Ins mX4_kinds 14 15 1 (.aload_n 0) := ⟨by decide +kernel, rfl⟩
theorem iX4_kinds_15 : Ins mX4_kinds 15 18 3 (.getfield 35) := ⟨by decide +kernel, rfl⟩
theorem iX4_kinds_18 : Ins mX4_kinds 18 19 1 (.iload_n 1) := ⟨by decide +kernel, rfl⟩
theorem iX4_kinds_19 : Ins mX4_kinds 19 20 1 (.aaload) := ⟨by decide +kernel, rfl⟩
theorem iX4_kinds_20 : Ins mX4_kinds 20 23 3 (.getfield 173) := ⟨by decide +kernel, rfl⟩
theorem iX4_kinds_23 : InB mX4_kinds 23 26 32 (.ifCond .ne) := ⟨by decide +kernel, rfl⟩
theorem iX4_kinds_26 : Ins mX4_kinds 26 27 1 (.aload_n 0) := ⟨by decide +kernel, rfl⟩
theorem iX4_kinds_27 : Ins mX4_kinds 27 28 1 (.iconst 5) := ⟨by decide +kernel, rfl⟩
theorem iX4_kinds_28 : Ins mX4_kinds 28 31 3 (.invokevirtual 48) := ⟨by decide +kernel, rfl⟩
theorem iX4_kinds_31 : Ins mX4_kinds 31 32 1 (.ireturn) := ⟨by decide +kernel, rfl⟩
theorem iX4_kinds_32 : Ins mX4_kinds 32 33 1 (.aload_n 0) := ⟨by decide +kernel, rfl⟩
theorem iX4_kinds_33 : Ins mX4_kinds 33 36 3 (.getfield 10) := ⟨by decide +kernel, rfl⟩
theorem iX4_kinds_36 : Ins mX4_kinds 36 37 1 (.iload_n 2) := ⟨by decide +kernel, rfl⟩
theorem iX4_kinds_37 : Ins mX4_kinds 37 40 3 (.invokevirtual 63) := ⟨by decide +kernel, rfl⟩
theorem iX4_kinds_40 : InB mX4_kinds 40 43 49 (.ifCond .ne) := ⟨by decide +kernel, rfl⟩
theorem iX4_kinds_43 : Ins mX4_kinds 43 44 1 (.aload_n 0) := ⟨by decide +kernel, rfl⟩
theorem iX4_kinds_44 : Ins mX4_kinds 44 45 1 (.iconst 0) := ⟨by decide +kernel, rfl⟩
theorem iX4_kinds_45 : Ins mX4_kinds 45 48 3 (.invokevirtual 48) := ⟨by decide +kernel, rfl⟩
theorem iX4_kinds_48 : Ins mX4_kinds 48 49 1 (.ireturn) := ⟨by decide +kernel, rfl⟩
theorem iX4_kinds_49 : Ins mX4_kinds 49 50 1 (.iconst 0) := ⟨by decide +kernel, rfl⟩
theorem iX4_kinds_50 : Ins mX4_kinds 50 51 1 (.istore_n 3) := ⟨by decide +kernel, rfl⟩
theorem iX4_kinds_51 : Ins mX4_kinds 51 52 1 (.iconst 0) := ⟨by decide +kernel, rfl⟩
theorem iX4_kinds_52 : Ins mX4_kinds 52 54 2 (.istore 4) := ⟨by decide +kernel, rfl⟩
theorem iX4_kinds_54 : Ins mX4_kinds 54 56 2 (.iload 4) := ⟨by decide +kernel, rfl⟩
theorem iX4_kinds_56 : Ins mX4_kinds 56 58 2 (.bipush 7) := ⟨by decide +kernel, rfl⟩
theorem iX4_kinds_58 : InB mX4_kinds 58 61 110 (.if_icmp .ge) := ⟨by decide +kernel, rfl⟩
theorem iX4_kinds_61 : Ins mX4_kinds 61 62 1 (.aload_n 0) := ⟨by decide +kernel, rfl⟩
theorem iX4_kinds_62 : Ins mX4_kinds 62 65 3 (.getfield 16) := ⟨by decide +kernel, rfl⟩
theorem iX4_kinds_65 : Ins mX4_kinds 65 66 1 (.aload_n 0) := ⟨by decide +kernel, rfl⟩
theorem iX4_kinds_66 : Ins mX4_kinds 66 69 3 (.getfield 10) := ⟨by decide +kernel, rfl⟩
theorem iX4_kinds_69 : Ins mX4_kinds 69 72 3 (.invokevirtual 147) := ⟨by decide +kernel, rfl⟩
theorem iX4_kinds_72 : Ins mX4_kinds 72 73 1 (.aload_n 0) := ⟨by decide +kernel, rfl⟩
theorem iX4_kinds_73 : Ins mX4_kinds 73 76 3 (.getfield 16) := ⟨by decide +kernel, rfl⟩
theorem iX4_kinds_76 : Ins mX4_kinds 76 79 3 (.getfield 73) := ⟨by decide +kernel, rfl⟩
theorem iX4_kinds_79 : Ins mX4_kinds 79 80 1 (.iload_n 2) := ⟨by decide +kernel, rfl⟩
theorem iX4_kinds_80 : Ins mX4_kinds 80 82 2 (.iload 4) := ⟨by decide +kernel, rfl⟩
theorem iX4_kinds_82 : Ins mX4_kinds 82 83 1 (.iastore) := ⟨by decide +kernel, rfl⟩
theorem iX4_kinds_83 : Ins mX4_kinds 83 84 1 (.aload_n 0) := ⟨by decide +kernel, rfl⟩
theorem iX4_kinds_84 : Ins mX4_kinds 84 85 1 (.aload_n 0) := ⟨by decide +kernel, rfl⟩
theorem iX4_kinds_85 : Ins mX4_kinds 85 88 3 (.getfield 35) := ⟨by decide +kernel, rfl⟩
theorem iX4_kinds_88 : Ins mX4_kinds 88 89 1 (.iload_n 1) := ⟨by decide +kernel, rfl⟩
theorem iX4_kinds_89 : Ins mX4_kinds 89 90 1 (.aaload) := ⟨by decide +kernel, rfl⟩
theorem iX4_kinds_90 : Ins mX4_kinds 90 91 1 (.iload_n 2) := ⟨by decide +kernel, rfl⟩
theorem iX4_kinds_91 : Ins mX4_kinds 91 94 3 (.invokevirtual 189) := ⟨by decide +kernel, rfl⟩
theorem iX4_kinds_94 : InB mX4_kinds 94 97 104 (.ifCond .eq) := ⟨by decide +kernel, rfl⟩
theorem iX4_kinds_97 : Ins mX4_kinds 97 98 1 (.iload_n 3) := ⟨by decide +kernel, rfl⟩
theorem iX4_kinds_98 : Ins mX4_kinds 98 99 1 (.iconst 1) := ⟨by decide +kernel, rfl⟩
theorem iX4_kinds_99 : Ins mX4_kinds 99 101 2 (.iload 4) := ⟨by decide +kernel, rfl⟩
theorem iX4_kinds_101 : Ins mX4_kinds 101 102 1 (.ishl) := ⟨by decide +kernel, rfl⟩
theorem iX4_kinds_102 : Ins mX4_kinds 102 103 1 (.ior) := ⟨by decide +kernel, rfl⟩
theorem iX4_kinds_103 : Ins mX4_kinds 103 104 1 (.istore_n 3) := ⟨by decide +kernel, rfl⟩
theorem iX4_kinds_104 : Ins mX4_kinds 104 107 3 (.iinc 4 1) := ⟨by decide +kernel, rfl⟩
theorem iX4_kinds_107 : InB mX4_kinds 107 110 54 .goto := ⟨by decide +kernel, rfl⟩
theorem iX4_kinds_110 : Ins mX4_kinds 110 111 1 (.iload_n 3) := ⟨by decide +kernel, rfl⟩
theorem iX4_kinds_111 : Ins mX4_kinds 111 112 1 (.ireturn) := ⟨by decide +kernel, rfl⟩
theorem iX4_sayingsAreAsTold_0 : Ins mX4_sayingsAreAsTold 0 1 1 (.iconst 0) := ⟨by decide +kernel, rfl⟩
theorem iX4_sayingsAreAsTold_1 : Ins mX4_sayingsAreAsTold 1 2 1 (.istore_n 3) := ⟨by decide +kernel, rfl⟩
theorem iX4_sayingsAreAsTold_2 : Ins mX4_sayingsAreAsTold 2 3 1 (.iload_n 3) := ⟨by decide +kernel, rfl⟩
theorem iX4_sayingsAreAsTold_3 : Ins mX4_sayingsAreAsTold 3 4 1 (.aload_n 1) := ⟨by decide +kernel, rfl⟩
theorem iX4_sayingsAreAsTold_4 : Ins mX4_sayingsAreAsTold 4 7 3 (.getfield 183) := ⟨by decide +kernel, rfl⟩
theorem iX4_sayingsAreAsTold_7 : InB mX4_sayingsAreAsTold 7 10 45 (.if_icmp .ge) := ⟨by decide +kernel, rfl⟩
theorem iX4_sayingsAreAsTold_10 : Ins mX4_sayingsAreAsTold 10 11 1 (.iload_n 3) := ⟨by decide +kernel, rfl⟩
theorem iX4_sayingsAreAsTold_11 : InB mX4_sayingsAreAsTold 11 14 21 (.ifCond .le) := ⟨by decide +kernel, rfl⟩
theorem iX4_sayingsAreAsTold_14 : Ins mX4_sayingsAreAsTold 14 15 1 (.aload_n 0) := ⟨by decide +kernel, rfl⟩
theorem iX4_sayingsAreAsTold_15 : Ins mX4_sayingsAreAsTold 15 18 3 (.getfield 16) := ⟨by decide +kernel, rfl⟩
theorem iX4_sayingsAreAsTold_18 : Ins mX4_sayingsAreAsTold 18 21 3 (.invokevirtual 151) := ⟨by decide +kernel, rfl⟩
theorem iX4_sayingsAreAsTold_21 : Ins mX4_sayingsAreAsTold 21 22 1 (.aload_n 1) := ⟨by decide +kernel, rfl⟩
theorem iX4_sayingsAreAsTold_22 : Ins mX4_sayingsAreAsTold 22 23 1 (.iload_n 3) := ⟨by decide +kernel, rfl⟩
theorem iX4_sayingsAreAsTold_23 : Ins mX4_sayingsAreAsTold 23 24 1 (.aload_n 0) := ⟨by decide +kernel, rfl⟩
theorem iX4_sayingsAreAsTold_24 : Ins mX4_sayingsAreAsTold 24 27 3 (.getfield 16) := ⟨by decide +kernel, rfl⟩
theorem iX4_sayingsAreAsTold_27 : Ins mX4_sayingsAreAsTold 27 28 1 (.iload_n 2) := ⟨by decide +kernel, rfl⟩
theorem iX4_sayingsAreAsTold_28 : Ins mX4_sayingsAreAsTold 28 31 3 (.invokevirtual 85) := ⟨by decide +kernel, rfl⟩
theorem iX4_sayingsAreAsTold_31 : Ins mX4_sayingsAreAsTold 31 34 3 (.invokevirtual 186) := ⟨by decide +kernel, rfl⟩
theorem iX4_sayingsAreAsTold_34 : InB mX4_sayingsAreAsTold 34 37 39 (.ifCond .ne) := ⟨by decide +kernel, rfl⟩
theorem iX4_sayingsAreAsTold_37 : Ins mX4_sayingsAreAsTold 37 38 1 (.iconst 0) := ⟨by decide +kernel, rfl⟩
theorem iX4_sayingsAreAsTold_38 : Ins mX4_sayingsAreAsTold 38 39 1 (.ireturn) := ⟨by decide +kernel, rfl⟩
theorem iX4_sayingsAreAsTold_39 : Ins mX4_sayingsAreAsTold 39 42 3 (.iinc 3 1) := ⟨by decide +kernel, rfl⟩
theorem iX4_sayingsAreAsTold_42 : InB mX4_sayingsAreAsTold 42 45 2 .goto := ⟨by decide +kernel, rfl⟩
theorem iX4_sayingsAreAsTold_45 : Ins mX4_sayingsAreAsTold 45 46 1 (.iconst 1) := ⟨by decide +kernel, rfl⟩
theorem iX4_sayingsAreAsTold_46 : Ins mX4_sayingsAreAsTold 46 47 1 (.ireturn) := ⟨by decide +kernel, rfl⟩
theorem iX4_evening_0 : Ins mX4_evening 0 1 1 (.iload_n 1) := ⟨by decide +kernel, rfl⟩
theorem iX4_evening_1 : Ins mX4_evening 1 2 1 (.iconst 1) := ⟨by decide +kernel, rfl⟩
theorem iX4_evening_2 : InB mX4_evening 2 5 11 (.if_icmp .lt) := ⟨by decide +kernel, rfl⟩
theorem iX4_evening_5 : Ins mX4_evening 5 6 1 (.iload_n 1) := ⟨by decide +kernel, rfl⟩
theorem iX4_evening_6 : Ins mX4_evening 6 8 2 (.bipush 20) := ⟨by decide +kernel, rfl⟩
theorem iX4_evening_8 : InB mX4_evening 8 11 17 (.if_icmp .le) := ⟨by decide +kernel, rfl⟩
theorem iX4_evening_11 : Ins mX4_evening 11 12 1 (.aload_n 0) := ⟨by decide +kernel, rfl⟩
theorem iX4_evening_12 : Ins mX4_evening 12 13 1 (.iconst 0) := ⟨by decide +kernel, rfl⟩
theorem iX4_evening_13 : Ins mX4_evening 13 16 3 (.invokevirtual 48) := ⟨by decide +kernel, rfl⟩
theorem iX4_evening_16 : Ins mX4_evening 16 17 1 (.ireturn) := ⟨by decide +kernel, rfl⟩
theorem iX4_evening_17 : Ins mX4_evening 17 18 1 (.aload_n 0) := ⟨by decide +kernel, rfl⟩
theorem iX4_evening_18 : Ins mX4_evening 18 21 3 (.getfield 10) := ⟨by decide +kernel, rfl⟩
theorem iX4_evening_21 : Ins mX4_evening 21 24 3 (.getfield 117) := ⟨by decide +kernel, rfl⟩
theorem iX4_evening_24 : Ins mX4_evening 24 25 1 (.iload_n 1) := ⟨by decide +kernel, rfl⟩
theorem iX4_evening_25 : Ins mX4_evening 25 26 1 (.iadd) := ⟨by decide +kernel, rfl⟩
theorem iX4_evening_26 : Ins mX4_evening 26 28 2 (.ldc 120) := ⟨by decide +kernel, rfl⟩
theorem iX4_evening_28 : InB mX4_evening 28 31 37 (.if_icmp .le) := ⟨by decide +kernel, rfl⟩
theorem iX4_evening_31 : Ins mX4_evening 31 32 1 (.aload_n 0) := ⟨by decide +kernel, rfl⟩
theorem iX4_evening_32 : Ins mX4_evening 32 33 1 (.iconst 4) := ⟨by decide +kernel, rfl⟩
theorem iX4_evening_33 : Ins mX4_evening 33 36 3 (.invokevirtual 48) := ⟨by decide +kernel, rfl⟩
theorem iX4_evening_36 : Ins mX4_evening 36 37 1 (.ireturn) := ⟨by decide +kernel, rfl⟩
theorem iX4_evening_37 : Ins mX4_evening 37 38 1 (.iconst 0) := ⟨by decide +kernel, rfl⟩
theorem iX4_evening_38 : Ins mX4_evening 38 39 1 (.istore_n 2) := ⟨by decide +kernel, rfl⟩
theorem iX4_evening_39 : Ins mX4_evening 39 40 1 (.iload_n 2) := ⟨by decide +kernel, rfl⟩
theorem iX4_evening_40 : Ins mX4_evening 40 41 1 (.iload_n 1) := ⟨by decide +kernel, rfl⟩
theorem iX4_evening_41 : InB mX4_evening 41 44 90 (.if_icmp .ge) := ⟨by decide +kernel, rfl⟩
theorem iX4_evening_44 : Ins mX4_evening 44 45 1 (.aload_n 0) := ⟨by decide +kernel, rfl⟩
theorem iX4_evening_45 : Ins mX4_evening 45 48 3 (.getfield 10) := ⟨by decide +kernel, rfl⟩
theorem iX4_evening_48 : Ins mX4_evening 48 51 3 (.invokevirtual 192) := ⟨by decide +kernel, rfl⟩
theorem iX4_evening_51 : Ins mX4_evening 51 53 2 (.bipush 8) := ⟨by decide +kernel, rfl⟩
theorem iX4_evening_53 : Ins mX4_evening 53 54 1 (.irem) := ⟨by decide +kernel, rfl⟩
theorem iX4_evening_54 : Ins mX4_evening 54 55 1 (.istore_n 3) := ⟨by decide +kernel, rfl⟩
theorem iX4_evening_55 : Ins mX4_evening 55 56 1 (.aload_n 0) := ⟨by decide +kernel, rfl⟩
theorem iX4_evening_56 : Ins mX4_evening 56 59 3 (.getfield 10) := ⟨by decide +kernel, rfl⟩
theorem iX4_evening_59 : Ins mX4_evening 59 62 3 (.invokevirtual 192) := ⟨by decide +kernel, rfl⟩
theorem iX4_evening_62 : Ins mX4_evening 62 64 2 (.bipush 8) := ⟨by decide +kernel, rfl⟩
theorem iX4_evening_64 : Ins mX4_evening 64 65 1 (.irem) := ⟨by decide +kernel, rfl⟩
theorem iX4_evening_65 : Ins mX4_evening 65 67 2 (.istore 4) := ⟨by decide +kernel, rfl⟩
theorem iX4_evening_67 : Ins mX4_evening 67 68 1 (.aload_n 0) := ⟨by decide +kernel, rfl⟩
theorem iX4_evening_68 : Ins mX4_evening 68 71 3 (.getfield 10) := ⟨by decide +kernel, rfl⟩
theorem iX4_evening_71 : Ins mX4_evening 71 72 1 (.iload_n 3) := ⟨by decide +kernel, rfl⟩
theorem iX4_evening_72 : Ins mX4_evening 72 74 2 (.iload 4) := ⟨by decide +kernel, rfl⟩
theorem iX4_evening_74 : Ins mX4_evening 74 77 3 (.invokevirtual 176) := ⟨by decide +kernel, rfl⟩
theorem iX4_evening_77 : Ins mX4_evening 77 78 1 (.aload_n 0) := ⟨by decide +kernel, rfl⟩
theorem iX4_evening_78 : Ins mX4_evening 78 81 3 (.getfield 10) := ⟨by decide +kernel, rfl⟩
theorem iX4_evening_81 : Ins mX4_evening 81 84 3 (.invokevirtual 151) := ⟨by decide +kernel, rfl⟩
theorem iX4_evening_84 : Ins mX4_evening 84 87 3 (.iinc 2 1) := ⟨by decide +kernel, rfl⟩
theorem iX4_evening_87 : InB mX4_evening 87 90 39 .goto := ⟨by decide +kernel, rfl⟩
theorem iX4_evening_90 : Ins mX4_evening 90 91 1 (.aload_n 0) := ⟨by decide +kernel, rfl⟩
theorem iX4_evening_91 : Ins mX4_evening 91 94 3 (.getfield 10) := ⟨by decide +kernel, rfl⟩
theorem iX4_evening_94 : Ins mX4_evening 94 97 3 (.getfield 125) := ⟨by decide +kernel, rfl⟩
theorem iX4_evening_97 : Ins mX4_evening 97 98 1 (.ireturn) := ⟨by decide +kernel, rfl⟩
theorem iX4_odds_0 : Ins mX4_odds 0 1 1 (.aload_n 0) := ⟨by decide +kernel, rfl⟩
theorem iX4_odds_1 : Ins mX4_odds 1 4 3 (.getfield 10) := ⟨by decide +kernel, rfl⟩
theorem iX4_odds_4 : Ins mX4_odds 4 5 1 (.iload_n 1) := ⟨by decide +kernel, rfl⟩
theorem iX4_odds_5 : Ins mX4_odds 5 8 3 (.invokevirtual 92) := ⟨by decide +kernel, rfl⟩
theorem iX4_odds_8 : InB mX4_odds 8 11 40 (.ifCond .eq) := ⟨by decide +kernel, rfl⟩
theorem iX4_odds_11 : Ins mX4_odds 11 12 1 (.aload_n 0) := ⟨by decide +kernel, rfl⟩
theorem iX4_odds_12 : Ins mX4_odds 12 15 3 (.getfield 10) := ⟨by decide +kernel, rfl⟩
theorem iX4_odds_15 : Ins mX4_odds 15 16 1 (.iload_n 2) := ⟨by decide +kernel, rfl⟩
theorem iX4_odds_16 : Ins mX4_odds 16 19 3 (.invokevirtual 63) := ⟨by decide +kernel, rfl⟩
theorem iX4_odds_19 : InB mX4_odds 19 22 40 (.ifCond .eq) := ⟨by decide +kernel, rfl⟩
theorem iX4_odds_22 : Ins mX4_odds 22 23 1 (.iload_n 3) := ⟨by decide +kernel, rfl⟩
theorem iX4_odds_23 : Ins mX4_odds 23 25 2 (.bipush 18) := ⟨by decide +kernel, rfl⟩
theorem iX4_odds_25 : Ins mX4_odds 25 28 3 (.invokestatic 44) := ⟨by decide +kernel, rfl⟩
theorem iX4_odds_28 : InB mX4_odds 28 31 40 (.ifCond .eq) := ⟨by decide +kernel, rfl⟩
theorem iX4_odds_31 : Ins mX4_odds 31 33 2 (.iload 4) := ⟨by decide +kernel, rfl⟩
theorem iX4_odds_33 : Ins mX4_odds 33 34 1 (.iconst 1) := ⟨by decide +kernel, rfl⟩
theorem iX4_odds_34 : Ins mX4_odds 34 37 3 (.invokestatic 44) := ⟨by decide +kernel, rfl⟩
theorem iX4_odds_37 : InB mX4_odds 37 40 47 (.ifCond .ne) := ⟨by decide +kernel, rfl⟩
theorem iX4_odds_40 : Ins mX4_odds 40 41 1 (.aload_n 0) := ⟨by decide +kernel, rfl⟩
theorem iX4_odds_41 : Ins mX4_odds 41 42 1 (.iconst 0) := ⟨by decide +kernel, rfl⟩
theorem iX4_odds_42 : Ins mX4_odds 42 45 3 (.invokevirtual 48) := ⟨by decide +kernel, rfl⟩
theorem iX4_odds_45 : Ins mX4_odds 45 46 1 (.i2l) := ⟨by decide +kernel, rfl⟩
theorem iX4_odds_46 : Ins mX4_odds 46 47 1 (.lreturn) := ⟨by decide +kernel, rfl⟩
theorem iX4_odds_47 : Ins mX4_odds 47 48 1 (.iconst 0) := ⟨by decide +kernel, rfl⟩
theorem iX4_odds_48 : Ins mX4_odds 48 50 2 (.istore 5) := ⟨by decide +kernel, rfl⟩
theorem iX4_odds_50 : Ins mX4_odds 50 51 1 (.iconst 0) := ⟨by decide +kernel, rfl⟩
theorem iX4_odds_51 : Ins mX4_odds 51 53 2 (.istore 6) := ⟨by decide +kernel, rfl⟩
theorem iX4_odds_53 : Ins mX4_odds 53 55 2 (.iload 6) := ⟨by decide +kernel, rfl⟩
theorem iX4_odds_55 : Ins mX4_odds 55 57 2 (.bipush 9) := ⟨by decide +kernel, rfl⟩
theorem iX4_odds_57 : InB mX4_odds 57 60 91 (.if_icmp .gt) := ⟨by decide +kernel, rfl⟩
theorem iX4_odds_60 : Ins mX4_odds 60 61 1 (.aload_n 0) := ⟨by decide +kernel, rfl⟩
theorem iX4_odds_61 : Ins mX4_odds 61 64 3 (.getfield 10) := ⟨by decide +kernel, rfl⟩
theorem iX4_odds_64 : Ins mX4_odds 64 65 1 (.iload_n 2) := ⟨by decide +kernel, rfl⟩
theorem iX4_odds_65 : Ins mX4_odds 65 66 1 (.aload_n 0) := ⟨by decide +kernel, rfl⟩
theorem iX4_odds_66 : Ins mX4_odds 66 69 3 (.getfield 10) := ⟨by decide +kernel, rfl⟩
theorem iX4_odds_69 : Ins mX4_odds 69 72 3 (.getfield 95) := ⟨by decide +kernel, rfl⟩
theorem iX4_odds_72 : Ins mX4_odds 72 73 1 (.iload_n 1) := ⟨by decide +kernel, rfl⟩
theorem iX4_odds_73 : Ins mX4_odds 73 74 1 (.iaload) := ⟨by decide +kernel, rfl⟩
theorem iX4_odds_74 : Ins mX4_odds 74 76 2 (.iload 6) := ⟨by decide +kernel, rfl⟩
theorem iX4_odds_76 : Ins mX4_odds 76 79 3 (.invokevirtual 195) := ⟨by decide +kernel, rfl⟩
theorem iX4_odds_79 : InB mX4_odds 79 82 85 (.ifCond .eq) := ⟨by decide +kernel, rfl⟩
theorem iX4_odds_82 : Ins mX4_odds 82 85 3 (.iinc 5 1) := ⟨by decide +kernel, rfl⟩
theorem iX4_odds_85 : Ins mX4_odds 85 88 3 (.iinc 6 1) := ⟨by decide +kernel, rfl⟩
theorem iX4_odds_88 : InB mX4_odds 88 91 53 .goto := ⟨by decide +kernel, rfl⟩
theorem iX4_odds_91 : Ins mX4_odds 91 93 2 (.iload 5) := ⟨by decide +kernel, rfl⟩
theorem iX4_odds_93 : Ins mX4_odds 93 95 2 (.bipush 10) := ⟨by decide +kernel, rfl⟩
theorem iX4_odds_95 : Ins mX4_odds 95 97 2 (.iload 4) := ⟨by decide +kernel, rfl⟩
theorem iX4_odds_97 : Ins mX4_odds 97 100 3 (.invokestatic 199) := ⟨by decide +kernel, rfl⟩
theorem iX4_odds_100 : Ins mX4_odds 100 101 1 (.iload_n 3) := ⟨by decide +kernel, rfl⟩
theorem iX4_odds_101 : Ins mX4_odds 101 104 3 (.invokestatic 202) := ⟨by decide +kernel, rfl⟩
theorem iX4_odds_104 : Ins mX4_odds 104 105 1 (.lreturn) := ⟨by decide +kernel, rfl⟩
theorem iX4_inLowestTerms_0 : Ins mX4_inLowestTerms 0 1 1 (.iload_n 2) := ⟨by decide +kernel, rfl⟩
theorem iX4_inLowestTerms_1 : InB mX4_inLowestTerms 1 4 8 (.ifCond .ne) := ⟨by decide +kernel, rfl⟩
theorem iX4_inLowestTerms_4 : Ins mX4_inLowestTerms 4 5 1 (.iload_n 0) := ⟨by decide +kernel, rfl⟩
theorem iX4_inLowestTerms_5 : InB mX4_inLowestTerms 5 8 9 .goto := ⟨by decide +kernel, rfl⟩
theorem iX4_inLowestTerms_8 : Ins mX4_inLowestTerms 8 9 1 (.iload_n 1) := ⟨by decide +kernel, rfl⟩
theorem iX4_inLowestTerms_9 : Ins mX4_inLowestTerms 9 10 1 (.istore_n 3) := ⟨by decide +kernel, rfl⟩
theorem iX4_inLowestTerms_10 : Ins mX4_inLowestTerms 10 11 1 (.iload_n 1) := ⟨by decide +kernel, rfl⟩
theorem iX4_inLowestTerms_11 : Ins mX4_inLowestTerms 11 13 2 (.istore 4) := ⟨by decide +kernel, rfl⟩
theorem iX4_inLowestTerms_13 : Ins mX4_inLowestTerms 13 15 2 (.iload 4) := ⟨by decide +kernel, rfl⟩
theorem iX4_inLowestTerms_15 : Ins mX4_inLowestTerms 15 16 1 (.iconst 1) := ⟨by decide +kernel, rfl⟩
theorem iX4_inLowestTerms_16 : InB mX4_inLowestTerms 16 19 44 (.if_icmp .le) := ⟨by decide +kernel, rfl⟩
theorem iX4_inLowestTerms_19 : Ins mX4_inLowestTerms 19 20 1 (.iload_n 0) := ⟨by decide +kernel, rfl⟩
theorem iX4_inLowestTerms_20 : Ins mX4_inLowestTerms 20 22 2 (.iload 4) := ⟨by decide +kernel, rfl⟩
theorem iX4_inLowestTerms_22 : Ins mX4_inLowestTerms 22 23 1 (.irem) := ⟨by decide +kernel, rfl⟩
theorem iX4_inLowestTerms_23 : InB mX4_inLowestTerms 23 26 38 (.ifCond .ne) := ⟨by decide +kernel, rfl⟩
theorem iX4_inLowestTerms_26 : Ins mX4_inLowestTerms 26 27 1 (.iload_n 1) := ⟨by decide +kernel, rfl⟩
theorem iX4_inLowestTerms_27 : Ins mX4_inLowestTerms 27 29 2 (.iload 4) := ⟨by decide +kernel, rfl⟩
theorem iX4_inLowestTerms_29 : Ins mX4_inLowestTerms 29 30 1 (.irem) := ⟨by decide +kernel, rfl⟩
theorem iX4_inLowestTerms_30 : InB mX4_inLowestTerms 30 33 38 (.ifCond .ne) := ⟨by decide +kernel, rfl⟩
theorem iX4_inLowestTerms_33 : Ins mX4_inLowestTerms 33 34 1 (.iload_n 3) := ⟨by decide +kernel, rfl⟩
theorem iX4_inLowestTerms_34 : Ins mX4_inLowestTerms 34 36 2 (.iload 4) := ⟨by decide +kernel, rfl⟩
theorem iX4_inLowestTerms_36 : Ins mX4_inLowestTerms 36 37 1 (.idiv) := ⟨by decide +kernel, rfl⟩
theorem iX4_inLowestTerms_37 : Ins mX4_inLowestTerms 37 38 1 (.ireturn) := ⟨by decide +kernel, rfl⟩
theorem iX4_inLowestTerms_38 : Ins mX4_inLowestTerms 38 41 3 (.iinc 4 (-1)) := ⟨by decide +kernel, rfl⟩
theorem iX4_inLowestTerms_41 : InB mX4_inLowestTerms 41 44 13 .goto := ⟨by decide +kernel, rfl⟩
theorem iX4_inLowestTerms_44 : Ins mX4_inLowestTerms 44 45 1 (.iload_n 3) := ⟨by decide +kernel, rfl⟩
theorem iX4_inLowestTerms_45 : Ins mX4_inLowestTerms 45 46 1 (.ireturn) := ⟨by decide +kernel, rfl⟩
theorem iX4_power_0 : Ins mX4_power 0 1 1 (.lconst 1) := ⟨by decide +kernel, rfl⟩
theorem iX4_power_1 : Ins mX4_power 1 2 1 (.lstore_n 2) := ⟨by decide +kernel, rfl⟩
theorem iX4_power_2 : Ins mX4_power 2 3 1 (.iconst 0) := ⟨by decide +kernel, rfl⟩
theorem iX4_power_3 : Ins mX4_power 3 5 2 (.istore 4) := ⟨by decide +kernel, rfl⟩
theorem iX4_power_5 : Ins mX4_power 5 7 2 (.iload 4) := ⟨by decide +kernel, rfl⟩
theorem iX4_power_7 : Ins mX4_power 7 8 1 (.iload_n 1) := ⟨by decide +kernel, rfl⟩
theorem iX4_power_8 : InB mX4_power 8 11 22 (.if_icmp .ge) := ⟨by decide +kernel, rfl⟩
theorem iX4_power_11 : Ins mX4_power 11 12 1 (.lload_n 2) := ⟨by decide +kernel, rfl⟩
theorem iX4_power_12 : Ins mX4_power 12 13 1 (.iload_n 0) := ⟨by decide +kernel, rfl⟩
theorem iX4_power_13 : Ins mX4_power 13 14 1 (.i2l) := ⟨by decide +kernel, rfl⟩
theorem iX4_power_14 : Ins mX4_power 14 15 1 (.lmul) := ⟨by decide +kernel, rfl⟩
theorem iX4_power_15 : Ins mX4_power 15 16 1 (.lstore_n 2) := ⟨by decide +kernel, rfl⟩
theorem iX4_power_16 : Ins mX4_power 16 19 3 (.iinc 4 1) := ⟨by decide +kernel, rfl⟩
theorem iX4_power_19 : InB mX4_power 19 22 5 .goto := ⟨by decide +kernel, rfl⟩
theorem iX4_power_22 : Ins mX4_power 22 23 1 (.lload_n 2) := ⟨by decide +kernel, rfl⟩
theorem iX4_power_23 : Ins mX4_power 23 24 1 (.lreturn) := ⟨by decide +kernel, rfl⟩
theorem iX4_seed_0 : Ins mX4_seed 0 1 1 (.aload_n 0) := ⟨by decide +kernel, rfl⟩
theorem iX4_seed_1 : Ins mX4_seed 1 4 3 (.getfield 10) := ⟨by decide +kernel, rfl⟩
theorem iX4_seed_4 : Ins mX4_seed 4 7 3 (.getfield 206) := ⟨by decide +kernel, rfl⟩
theorem iX4_seed_7 : Ins mX4_seed 7 8 1 (.istore_n 2) := ⟨by decide +kernel, rfl⟩
theorem iX4_seed_8 : Ins mX4_seed 8 9 1 (.aload_n 0) := ⟨by decide +kernel, rfl⟩
theorem iX4_seed_9 : Ins mX4_seed 9 12 3 (.getfield 10) := ⟨by decide +kernel, rfl⟩
theorem iX4_seed_12 : Ins mX4_seed 12 13 1 (.iload_n 1) := ⟨by decide +kernel, rfl⟩
theorem iX4_seed_13 : Ins mX4_seed 13 16 3 (.putfield 206) := ⟨by decide +kernel, rfl⟩
theorem iX4_seed_16 : Ins mX4_seed 16 17 1 (.iload_n 2) := ⟨by decide +kernel, rfl⟩
theorem iX4_seed_17 : Ins mX4_seed 17 18 1 (.ireturn) := ⟨by decide +kernel, rfl⟩
theorem iX4_feed_0 : Ins mX4_feed 0 1 1 (.iload_n 2) := ⟨by decide +kernel, rfl⟩
theorem iX4_feed_1 : Ins mX4_feed 1 2 1 (.iconst 1) := ⟨by decide +kernel, rfl⟩
theorem iX4_feed_2 : InB mX4_feed 2 5 10 (.if_icmp .lt) := ⟨by decide +kernel, rfl⟩
theorem iX4_feed_5 : Ins mX4_feed 5 6 1 (.iload_n 2) := ⟨by decide +kernel, rfl⟩
theorem iX4_feed_6 : Ins mX4_feed 6 7 1 (.iconst 4) := ⟨by decide +kernel, rfl⟩
theorem iX4_feed_7 : InB mX4_feed 7 10 16 (.if_icmp .le) := ⟨by decide +kernel, rfl⟩
theorem iX4_feed_10 : Ins mX4_feed 10 11 1 (.aload_n 0) := ⟨by decide +kernel, rfl⟩
theorem iX4_feed_11 : Ins mX4_feed 11 12 1 (.iconst 0) := ⟨by decide +kernel, rfl⟩
theorem iX4_feed_12 : Ins mX4_feed 12 15 3 (.invokevirtual 48) := ⟨by decide +kernel, rfl⟩
theorem iX4_feed_15 : Ins mX4_feed 15 16 1 (.ireturn) := ⟨by decide +kernel, rfl⟩
theorem iX4_feed_16 : Ins mX4_feed 16 17 1 (.aload_n 0) := ⟨by decide +kernel, rfl⟩
theorem iX4_feed_17 : Ins mX4_feed 17 20 3 (.getfield 29) := ⟨by decide +kernel, rfl⟩
theorem iX4_feed_20 : Ins mX4_feed 20 23 3 (.getfield 209) := ⟨by decide +kernel, rfl⟩
theorem iX4_feed_23 : Ins mX4_feed 23 26 3 (.getfield 213) := ⟨by decide +kernel, rfl⟩
theorem iX4_feed_26 : Ins mX4_feed 26 27 1 (.iload_n 2) := ⟨by decide +kernel, rfl⟩
theorem iX4_feed_27 : Ins mX4_feed 27 28 1 (.iadd) := ⟨by decide +kernel, rfl⟩
theorem iX4_feed_28 : Ins mX4_feed 28 30 2 (.bipush 120) := ⟨by decide +kernel, rfl⟩
theorem iX4_feed_30 : InB mX4_feed 30 33 39 (.if_icmp .le) := ⟨by decide +kernel, rfl⟩
theorem iX4_feed_33 : Ins mX4_feed 33 34 1 (.aload_n 0) := ⟨by decide +kernel, rfl⟩
theorem iX4_feed_34 : Ins mX4_feed 34 35 1 (.iconst 1) := ⟨by decide +kernel, rfl⟩
theorem iX4_feed_35 : Ins mX4_feed 35 38 3 (.invokevirtual 48) := ⟨by decide +kernel, rfl⟩
theorem iX4_feed_38 : Ins mX4_feed 38 39 1 (.ireturn) := ⟨by decide +kernel, rfl⟩
theorem iX4_feed_39 : Ins mX4_feed 39 40 1 (.iload_n 2) := ⟨by decide +kernel, rfl⟩
theorem iX4_feed_40 : Ins mX4_feed 40 41 1 (.iconst 1) := ⟨by decide +kernel, rfl⟩
theorem iX4_feed_41 : Ins mX4_feed 41 42 1 (.isub) := ⟨by decide +kernel, rfl⟩
theorem iX4_feed_42 : Ins mX4_feed 42 43 1 (.istore_n 3) := ⟨by decide +kernel, rfl⟩
theorem iX4_feed_43 : Ins mX4_feed 43 44 1 (.iload_n 3) := ⟨by decide +kernel, rfl⟩
theorem iX4_feed_44 : InB mX4_feed 44 47 73 (.ifCond .lt) := ⟨by decide +kernel, rfl⟩
theorem iX4_feed_47 : Ins mX4_feed 47 48 1 (.aload_n 0) := ⟨by decide +kernel, rfl⟩
theorem iX4_feed_48 : Ins mX4_feed 48 51 3 (.getfield 29) := ⟨by decide +kernel, rfl⟩
theorem iX4_feed_51 : Ins mX4_feed 51 54 3 (.getfield 209) := ⟨by decide +kernel, rfl⟩
theorem iX4_feed_54 : Ins mX4_feed 54 55 1 (.iload_n 1) := ⟨by decide +kernel, rfl⟩
theorem iX4_feed_55 : Ins mX4_feed 55 57 2 (.bipush 8) := ⟨by decide +kernel, rfl⟩
theorem iX4_feed_57 : Ins mX4_feed 57 58 1 (.iload_n 3) := ⟨by decide +kernel, rfl⟩
theorem iX4_feed_58 : Ins mX4_feed 58 59 1 (.imul) := ⟨by decide +kernel, rfl⟩
theorem iX4_feed_59 : Ins mX4_feed 59 60 1 (.iushr) := ⟨by decide +kernel, rfl⟩
theorem iX4_feed_60 : Ins mX4_feed 60 63 3 (.sipush 255) := ⟨by decide +kernel, rfl⟩
theorem iX4_feed_63 : Ins mX4_feed 63 64 1 (.iand) := ⟨by decide +kernel, rfl⟩
theorem iX4_feed_64 : Ins mX4_feed 64 67 3 (.invokevirtual 216) := ⟨by decide +kernel, rfl⟩
theorem iX4_feed_67 : Ins mX4_feed 67 70 3 (.iinc 3 (-1)) := ⟨by decide +kernel, rfl⟩
theorem iX4_feed_70 : InB mX4_feed 70 73 43 .goto := ⟨by decide +kernel, rfl⟩
theorem iX4_feed_73 : Ins mX4_feed 73 74 1 (.aload_n 0) := ⟨by decide +kernel, rfl⟩
theorem iX4_feed_74 : Ins mX4_feed 74 77 3 (.getfield 29) := ⟨by decide +kernel, rfl⟩
theorem iX4_feed_77 : Ins mX4_feed 77 80 3 (.getfield 209) := ⟨by decide +kernel, rfl⟩
theorem iX4_feed_80 : Ins mX4_feed 80 83 3 (.getfield 213) := ⟨by decide +kernel, rfl⟩
theorem iX4_feed_83 : Ins mX4_feed 83 84 1 (.ireturn) := ⟨by decide +kernel, rfl⟩
theorem iX4_wipe_0 : Ins mX4_wipe 0 1 1 (.aload_n 0) := ⟨by decide +kernel, rfl⟩
theorem iX4_wipe_1 : Ins mX4_wipe 1 4 3 (.getfield 29) := ⟨by decide +kernel, rfl⟩
theorem iX4_wipe_4 : Ins mX4_wipe 4 7 3 (.getfield 209) := ⟨by decide +kernel, rfl⟩
theorem iX4_wipe_7 : Ins mX4_wipe 7 10 3 (.getfield 213) := ⟨by decide +kernel, rfl⟩
theorem iX4_wipe_10 : Ins mX4_wipe 10 11 1 (.istore_n 1) := ⟨by decide +kernel, rfl⟩
theorem iX4_wipe_11 : Ins mX4_wipe 11 12 1 (.aload_n 0) := ⟨by decide +kernel, rfl⟩
theorem iX4_wipe_12 : Ins mX4_wipe 12 15 3 (.getfield 29) := ⟨by decide +kernel, rfl⟩
theorem iX4_wipe_15 : Ins mX4_wipe 15 18 3 (.getfield 209) := ⟨by decide +kernel, rfl⟩
theorem iX4_wipe_18 : Ins mX4_wipe 18 19 1 (.iconst 0) := ⟨by decide +kernel, rfl⟩
theorem iX4_wipe_19 : Ins mX4_wipe 19 22 3 (.putfield 213) := ⟨by decide +kernel, rfl⟩
theorem iX4_wipe_22 : Ins mX4_wipe 22 23 1 (.iload_n 1) := ⟨by decide +kernel, rfl⟩
theorem iX4_wipe_23 : Ins mX4_wipe 23 24 1 (.ireturn) := ⟨by decide +kernel, rfl⟩
theorem iX4_text_0 : Ins mX4_text 0 1 1 (.aload_n 0) := ⟨by decide +kernel, rfl⟩
theorem iX4_text_1 : Ins mX4_text 1 4 3 (.getfield 29) := ⟨by decide +kernel, rfl⟩
theorem iX4_text_4 : Ins mX4_text 4 7 3 (.getfield 219) := ⟨by decide +kernel, rfl⟩
theorem iX4_text_7 : Ins mX4_text 7 8 1 (.aload_n 0) := ⟨by decide +kernel, rfl⟩
theorem iX4_text_8 : Ins mX4_text 8 11 3 (.getfield 10) := ⟨by decide +kernel, rfl⟩
theorem iX4_text_11 : Ins mX4_text 11 14 3 (.invokevirtual 147) := ⟨by decide +kernel, rfl⟩
theorem iX4_text_14 : Ins mX4_text 14 15 1 (.aload_n 0) := ⟨by decide +kernel, rfl⟩
theorem iX4_text_15 : Ins mX4_text 15 18 3 (.getfield 29) := ⟨by decide +kernel, rfl⟩
theorem iX4_text_18 : Ins mX4_text 18 21 3 (.invokevirtual 220) := ⟨by decide +kernel, rfl⟩
theorem iX4_text_21 : Ins mX4_text 21 22 1 (.istore_n 1) := ⟨by decide +kernel, rfl⟩
theorem iX4_text_22 : Ins mX4_text 22 23 1 (.aload_n 0) := ⟨by decide +kernel, rfl⟩
theorem iX4_text_23 : Ins mX4_text 23 26 3 (.getfield 29) := ⟨by decide +kernel, rfl⟩
theorem iX4_text_26 : Ins mX4_text 26 29 3 (.getfield 209) := ⟨by decide +kernel, rfl⟩
theorem iX4_text_29 : Ins mX4_text 29 30 1 (.iconst 0) := ⟨by decide +kernel, rfl⟩
theorem iX4_text_30 : Ins mX4_text 30 33 3 (.putfield 213) := ⟨by decide +kernel, rfl⟩
theorem iX4_text_33 : Ins mX4_text 33 34 1 (.iload_n 1) := ⟨by decide +kernel, rfl⟩
theorem iX4_text_34 : InB mX4_text 34 37 51 (.ifCond .lt) := ⟨by decide +kernel, rfl⟩
theorem iX4_text_37 : Ins mX4_text 37 38 1 (.aload_n 0) := ⟨by decide +kernel, rfl⟩
theorem iX4_text_38 : Ins mX4_text 38 41 3 (.getfield 10) := ⟨by decide +kernel, rfl⟩
theorem iX4_text_41 : Ins mX4_text 41 42 1 (.aload_n 0) := ⟨by decide +kernel, rfl⟩
theorem iX4_text_42 : Ins mX4_text 42 45 3 (.getfield 29) := ⟨by decide +kernel, rfl⟩
theorem iX4_text_45 : Ins mX4_text 45 48 3 (.getfield 219) := ⟨by decide +kernel, rfl⟩
theorem iX4_text_48 : Ins mX4_text 48 51 3 (.invokevirtual 147) := ⟨by decide +kernel, rfl⟩
theorem iX4_text_51 : Ins mX4_text 51 52 1 (.iload_n 1) := ⟨by decide +kernel, rfl⟩
theorem iX4_text_52 : Ins mX4_text 52 53 1 (.ireturn) := ⟨by decide +kernel, rfl⟩
theorem iX4_hold_0 : Ins mX4_hold 0 1 1 (.iload_n 1) := ⟨by decide +kernel, rfl⟩
theorem iX4_hold_1 : Ins mX4_hold 1 3 2 (.bipush 9) := ⟨by decide +kernel, rfl⟩
theorem iX4_hold_3 : Ins mX4_hold 3 6 3 (.invokestatic 44) := ⟨by decide +kernel, rfl⟩
theorem iX4_hold_6 : InB mX4_hold 6 9 25 (.ifCond .eq) := ⟨by decide +kernel, rfl⟩
theorem iX4_hold_9 : Ins mX4_hold 9 10 1 (.iload_n 2) := ⟨by decide +kernel, rfl⟩
theorem iX4_hold_10 : Ins mX4_hold 10 11 1 (.iconst (-1)) := ⟨by decide +kernel, rfl⟩
theorem iX4_hold_11 : InB mX4_hold 11 14 31 (.if_icmp .eq) := ⟨by decide +kernel, rfl⟩
theorem iX4_hold_14 : Ins mX4_hold 14 15 1 (.aload_n 0) := ⟨by decide +kernel, rfl⟩
theorem iX4_hold_15 : Ins mX4_hold 15 18 3 (.getfield 10) := ⟨by decide +kernel, rfl⟩
theorem iX4_hold_18 : Ins mX4_hold 18 19 1 (.iload_n 2) := ⟨by decide +kernel, rfl⟩
theorem iX4_hold_19 : Ins mX4_hold 19 22 3 (.invokevirtual 63) := ⟨by decide +kernel, rfl⟩
theorem iX4_hold_22 : InB mX4_hold 22 25 31 (.ifCond .ne) := ⟨by decide +kernel, rfl⟩
theorem iX4_hold_25 : Ins mX4_hold 25 26 1 (.aload_n 0) := ⟨by decide +kernel, rfl⟩
theorem iX4_hold_26 : Ins mX4_hold 26 27 1 (.iconst 0) := ⟨by decide +kernel, rfl⟩
theorem iX4_hold_27 : Ins mX4_hold 27 30 3 (.invokevirtual 48) := ⟨by decide +kernel, rfl⟩
theorem iX4_hold_30 : Ins mX4_hold 30 31 1 (.ireturn) := ⟨by decide +kernel, rfl⟩
theorem iX4_hold_31 : Ins mX4_hold 31 32 1 (.aload_n 0) := ⟨by decide +kernel, rfl⟩
theorem iX4_hold_32 : Ins mX4_hold 32 35 3 (.getfield 10) := ⟨by decide +kernel, rfl⟩
theorem iX4_hold_35 : Ins mX4_hold 35 38 3 (.getfield 223) := ⟨by decide +kernel, rfl⟩
theorem iX4_hold_38 : Ins mX4_hold 38 39 1 (.iload_n 1) := ⟨by decide +kernel, rfl⟩
theorem iX4_hold_39 : Ins mX4_hold 39 40 1 (.iload_n 2) := ⟨by decide +kernel, rfl⟩
theorem iX4_hold_40 : Ins mX4_hold 40 41 1 (.iastore) := ⟨by decide +kernel, rfl⟩
theorem iX4_hold_41 : Ins mX4_hold 41 42 1 (.iconst 1) := ⟨by decide +kernel, rfl⟩
theorem iX4_hold_42 : Ins mX4_hold 42 43 1 (.ireturn) := ⟨by decide +kernel, rfl⟩
theorem iX4_as_0 : Ins mX4_as 0 1 1 (.iload_n 1) := ⟨by decide +kernel, rfl⟩
theorem iX4_as_1 : Ins mX4_as 1 3 2 (.bipush 9) := ⟨by decide +kernel, rfl⟩
theorem iX4_as_3 : Ins mX4_as 3 6 3 (.invokestatic 44) := ⟨by decide +kernel, rfl⟩
theorem iX4_as_6 : InB mX4_as 6 9 18 (.ifCond .eq) := ⟨by decide +kernel, rfl⟩
theorem iX4_as_9 : Ins mX4_as 9 10 1 (.iload_n 2) := ⟨by decide +kernel, rfl⟩
theorem iX4_as_10 : Ins mX4_as 10 12 2 (.bipush 6) := ⟨by decide +kernel, rfl⟩
theorem iX4_as_12 : Ins mX4_as 12 15 3 (.invokestatic 44) := ⟨by decide +kernel, rfl⟩
theorem iX4_as_15 : InB mX4_as 15 18 24 (.ifCond .ne) := ⟨by decide +kernel, rfl⟩
theorem iX4_as_18 : Ins mX4_as 18 19 1 (.aload_n 0) := ⟨by decide +kernel, rfl⟩
theorem iX4_as_19 : Ins mX4_as 19 20 1 (.iconst 0) := ⟨by decide +kernel, rfl⟩
theorem iX4_as_20 : Ins mX4_as 20 23 3 (.invokevirtual 48) := ⟨by decide +kernel, rfl⟩
theorem iX4_as_23 : Ins mX4_as 23 24 1 (.ireturn) := ⟨by decide +kernel, rfl⟩
theorem iX4_as_24 : Ins mX4_as 24 25 1 (.aload_n 0) := ⟨by decide +kernel, rfl⟩
theorem iX4_as_25 : Ins mX4_as 25 28 3 (.getfield 10) := ⟨by decide +kernel, rfl⟩
theorem iX4_as_28 : Ins mX4_as 28 31 3 (.getfield 223) := ⟨by decide +kernel, rfl⟩
theorem iX4_as_31 : Ins mX4_as 31 32 1 (.iload_n 1) := ⟨by decide +kernel, rfl⟩
theorem iX4_as_32 : Ins mX4_as 32 33 1 (.iaload) := ⟨by decide +kernel, rfl⟩
theorem iX4_as_33 : Ins mX4_as 33 34 1 (.istore_n 3) := ⟨by decide +kernel, rfl⟩
theorem iX4_as_34 : Ins mX4_as 34 35 1 (.aload_n 0) := ⟨by decide +kernel, rfl⟩
theorem iX4_as_35 : Ins mX4_as 35 38 3 (.getfield 10) := ⟨by decide +kernel, rfl⟩
theorem iX4_as_38 : Ins mX4_as 38 39 1 (.iload_n 3) := ⟨by decide +kernel, rfl⟩
theorem iX4_as_39 : Ins mX4_as 39 42 3 (.invokevirtual 63) := ⟨by decide +kernel, rfl⟩
theorem iX4_as_42 : InB mX4_as 42 45 51 (.ifCond .ne) := ⟨by decide +kernel, rfl⟩
theorem iX4_as_45 : Ins mX4_as 45 46 1 (.aload_n 0) := ⟨by decide +kernel, rfl⟩
theorem iX4_as_46 : Ins mX4_as 46 47 1 (.iconst 5) := ⟨by decide +kernel, rfl⟩
theorem iX4_as_47 : Ins mX4_as 47 50 3 (.invokevirtual 48) := ⟨by decide +kernel, rfl⟩
theorem iX4_as_50 : Ins mX4_as 50 51 1 (.ireturn) := ⟨by decide +kernel, rfl⟩
theorem iX4_as_51 : Ins mX4_as 51 52 1 (.aload_n 0) := ⟨by decide +kernel, rfl⟩
theorem iX4_as_52 : Ins mX4_as 52 55 3 (.getfield 10) := ⟨by decide +kernel, rfl⟩
theorem iX4_as_55 : Ins mX4_as 55 58 3 (.getfield 73) := ⟨by decide +kernel, rfl⟩
theorem iX4_as_58 : Ins mX4_as 58 59 1 (.iload_n 3) := ⟨by decide +kernel, rfl⟩
theorem iX4_as_59 : Ins mX4_as 59 60 1 (.iaload) := ⟨by decide +kernel, rfl⟩
theorem iX4_as_60 : Ins mX4_as 60 61 1 (.iload_n 2) := ⟨by decide +kernel, rfl⟩
theorem iX4_as_61 : Ins mX4_as 61 64 3 (.invokestatic 226) := ⟨by decide +kernel, rfl⟩
theorem iX4_as_64 : InB mX4_as 64 67 71 (.ifCond .eq) := ⟨by decide +kernel, rfl⟩
theorem iX4_as_67 : Ins mX4_as 67 68 1 (.iload_n 3) := ⟨by decide +kernel, rfl⟩
theorem iX4_as_68 : InB mX4_as 68 71 76 .goto := ⟨by decide +kernel, rfl⟩
theorem iX4_as_71 : Ins mX4_as 71 72 1 (.aload_n 0) := ⟨by decide +kernel, rfl⟩
theorem iX4_as_72 : Ins mX4_as 72 73 1 (.iconst 2) := ⟨by decide +kernel, rfl⟩
theorem iX4_as_73 : Ins mX4_as 73 76 3 (.invokevirtual 48) := ⟨by decide +kernel, rfl⟩
theorem iX4_as_76 : Ins mX4_as 76 77 1 (.ireturn) := ⟨by decide +kernel, rfl⟩
theorem iX4_isUnder_0 : Ins mX4_isUnder 0 1 1 (.iload_n 0) := ⟨by decide +kernel, rfl⟩
theorem iX4_isUnder_1 : Ins mX4_isUnder 1 2 1 (.istore_n 2) := ⟨by decide +kernel, rfl⟩
theorem iX4_isUnder_2 : Ins mX4_isUnder 2 3 1 (.iconst 0) := ⟨by decide +kernel, rfl⟩
theorem iX4_isUnder_3 : Ins mX4_isUnder 3 4 1 (.istore_n 3) := ⟨by decide +kernel, rfl⟩
theorem iX4_isUnder_4 : Ins mX4_isUnder 4 5 1 (.iload_n 3) := ⟨by decide +kernel, rfl⟩
theorem iX4_isUnder_5 : Ins mX4_isUnder 5 7 2 (.bipush 7) := ⟨by decide +kernel, rfl⟩
theorem iX4_isUnder_7 : InB mX4_isUnder 7 10 26 (.if_icmp .ge) := ⟨by decide +kernel, rfl⟩
theorem iX4_isUnder_10 : Ins mX4_isUnder 10 11 1 (.iload_n 2) := ⟨by decide +kernel, rfl⟩
theorem iX4_isUnder_11 : Ins mX4_isUnder 11 12 1 (.iload_n 1) := ⟨by decide +kernel, rfl⟩
theorem iX4_isUnder_12 : InB mX4_isUnder 12 15 26 (.if_icmp .eq) := ⟨by decide +kernel, rfl⟩
theorem iX4_isUnder_15 : Ins mX4_isUnder 15 16 1 (.iload_n 2) := ⟨by decide +kernel, rfl⟩
theorem iX4_isUnder_16 : Ins mX4_isUnder 16 19 3 (.invokestatic 229) := ⟨by decide +kernel, rfl⟩
theorem iX4_isUnder_19 : Ins mX4_isUnder 19 20 1 (.istore_n 2) := ⟨by decide +kernel, rfl⟩
theorem iX4_isUnder_20 : Ins mX4_isUnder 20 23 3 (.iinc 3 1) := ⟨by decide +kernel, rfl⟩
theorem iX4_isUnder_23 : InB mX4_isUnder 23 26 4 .goto := ⟨by decide +kernel, rfl⟩
theorem iX4_isUnder_26 : Ins mX4_isUnder 26 27 1 (.iload_n 2) := ⟨by decide +kernel, rfl⟩
theorem iX4_isUnder_27 : Ins mX4_isUnder 27 28 1 (.iload_n 1) := ⟨by decide +kernel, rfl⟩
theorem iX4_isUnder_28 : InB mX4_isUnder 28 31 35 (.if_icmp .ne) := ⟨by decide +kernel, rfl⟩
theorem iX4_isUnder_31 : Ins mX4_isUnder 31 32 1 (.iconst 1) := ⟨by decide +kernel, rfl⟩
theorem iX4_isUnder_32 : InB mX4_isUnder 32 35 36 .goto := ⟨by decide +kernel, rfl⟩
theorem iX4_isUnder_35 : Ins mX4_isUnder 35 36 1 (.iconst 0) := ⟨by decide +kernel, rfl⟩
theorem iX4_isUnder_36 : Ins mX4_isUnder 36 37 1 (.ireturn) := ⟨by decide +kernel, rfl⟩
theorem iX4_kindAbove_0 : Ins mX4_kindAbove 0 1 1 (.iload_n 0) := ⟨by decide +kernel, rfl⟩
theorem iX4_kindAbove_1 : decode mX4_kindAbove.2.1 1 = .ok (.tableswitch 47 1 6 #[39, 39, 41, 43, 39, 45], 39) := by decide +kernel
theorem iX4_kindAbove_40 : Ins mX4_kindAbove 40 41 1 (.iconst 0) := ⟨by decide +kernel, rfl⟩
theorem iX4_kindAbove_41 : Ins mX4_kindAbove 41 42 1 (.ireturn) := ⟨by decide +kernel, rfl⟩
theorem iX4_kindAbove_42 : Ins mX4_kindAbove 42 43 1 (.iconst 2) := ⟨by decide +kernel, rfl⟩
theorem iX4_kindAbove_43 : Ins mX4_kindAbove 43 44 1 (.ireturn) := ⟨by decide +kernel, rfl⟩
theorem iX4_kindAbove_44 : Ins mX4_kindAbove 44 45 1 (.iconst 3) := ⟨by decide +kernel, rfl⟩
theorem iX4_kindAbove_45 : Ins mX4_kindAbove 45 46 1 (.ireturn) := ⟨by decide +kernel, rfl⟩
theorem iX4_kindAbove_46 : Ins mX4_kindAbove 46 47 1 (.iconst 1) := ⟨by decide +kernel, rfl⟩
theorem iX4_kindAbove_47 : Ins mX4_kindAbove 47 48 1 (.ireturn) := ⟨by decide +kernel, rfl⟩
theorem iX4_kindAbove_48 : Ins mX4_kindAbove 48 49 1 (.iconst (-1)) := ⟨by decide +kernel, rfl⟩
theorem iX4_kindAbove_49 : Ins mX4_kindAbove 49 50 1 (.ireturn) := ⟨by decide +kernel, rfl⟩
theorem iX4_sheet_0 : Ins mX4_sheet 0 1 1 (.iload_n 1) := ⟨by decide +kernel, rfl⟩
theorem iX4_sheet_1 : Ins mX4_sheet 1 2 1 (.iconst 3) := ⟨by decide +kernel, rfl⟩
theorem iX4_sheet_2 : Ins mX4_sheet 2 5 3 (.invokestatic 44) := ⟨by decide +kernel, rfl⟩
theorem iX4_sheet_5 : InB mX4_sheet 5 8 30 (.ifCond .eq) := ⟨by decide +kernel, rfl⟩
theorem iX4_sheet_8 : Ins mX4_sheet 8 9 1 (.iload_n 2) := ⟨by decide +kernel, rfl⟩
theorem iX4_sheet_9 : InB mX4_sheet 9 12 36 (.ifCond .eq) := ⟨by decide +kernel, rfl⟩
theorem iX4_sheet_12 : Ins mX4_sheet 12 13 1 (.iload_n 2) := ⟨by decide +kernel, rfl⟩
theorem iX4_sheet_13 : Ins mX4_sheet 13 15 2 (.bipush 8) := ⟨by decide +kernel, rfl⟩
theorem iX4_sheet_15 : InB mX4_sheet 15 18 36 (.if_icmp .eq) := ⟨by decide +kernel, rfl⟩
theorem iX4_sheet_18 : Ins mX4_sheet 18 19 1 (.iload_n 2) := ⟨by decide +kernel, rfl⟩
theorem iX4_sheet_19 : Ins mX4_sheet 19 21 2 (.bipush 16) := ⟨by decide +kernel, rfl⟩
theorem iX4_sheet_21 : InB mX4_sheet 21 24 36 (.if_icmp .eq) := ⟨by decide +kernel, rfl⟩
theorem iX4_sheet_24 : Ins mX4_sheet 24 25 1 (.iload_n 2) := ⟨by decide +kernel, rfl⟩
theorem iX4_sheet_25 : Ins mX4_sheet 25 27 2 (.bipush 32) := ⟨by decide +kernel, rfl⟩
theorem iX4_sheet_27 : InB mX4_sheet 27 30 36 (.if_icmp .eq) := ⟨by decide +kernel, rfl⟩
theorem iX4_sheet_30 : Ins mX4_sheet 30 31 1 (.aload_n 0) := ⟨by decide +kernel, rfl⟩
theorem iX4_sheet_31 : Ins mX4_sheet 31 32 1 (.iconst 0) := ⟨by decide +kernel, rfl⟩
theorem iX4_sheet_32 : Ins mX4_sheet 32 35 3 (.invokevirtual 48) := ⟨by decide +kernel, rfl⟩
theorem iX4_sheet_35 : Ins mX4_sheet 35 36 1 (.ireturn) := ⟨by decide +kernel, rfl⟩
theorem iX4_sheet_36 : Ins mX4_sheet 36 37 1 (.iload_n 3) := ⟨by decide +kernel, rfl⟩
theorem iX4_sheet_37 : InB mX4_sheet 37 40 47 (.ifCond .ge) := ⟨by decide +kernel, rfl⟩
theorem iX4_sheet_40 : Ins mX4_sheet 40 41 1 (.aload_n 0) := ⟨by decide +kernel, rfl⟩
theorem iX4_sheet_41 : Ins mX4_sheet 41 43 2 (.bipush 6) := ⟨by decide +kernel, rfl⟩
theorem iX4_sheet_43 : Ins mX4_sheet 43 46 3 (.invokevirtual 48) := ⟨by decide +kernel, rfl⟩
theorem iX4_sheet_46 : Ins mX4_sheet 46 47 1 (.ireturn) := ⟨by decide +kernel, rfl⟩
theorem iX4_sheet_47 : Ins mX4_sheet 47 48 1 (.iload_n 3) := ⟨by decide +kernel, rfl⟩
theorem iX4_sheet_48 : Ins mX4_sheet 48 50 2 (.bipush 40) := ⟨by decide +kernel, rfl⟩
theorem iX4_sheet_50 : InB mX4_sheet 50 53 59 (.if_icmp .le) := ⟨by decide +kernel, rfl⟩
theorem iX4_sheet_53 : Ins mX4_sheet 53 54 1 (.aload_n 0) := ⟨by decide +kernel, rfl⟩
theorem iX4_sheet_54 : Ins mX4_sheet 54 55 1 (.iconst 0) := ⟨by decide +kernel, rfl⟩
theorem iX4_sheet_55 : Ins mX4_sheet 55 58 3 (.invokevirtual 48) := ⟨by decide +kernel, rfl⟩
theorem iX4_sheet_58 : Ins mX4_sheet 58 59 1 (.ireturn) := ⟨by decide +kernel, rfl⟩
theorem iX4_sheet_59 : Ins mX4_sheet 59 60 1 (.aload_n 0) := ⟨by decide +kernel, rfl⟩
theorem iX4_sheet_60 : Ins mX4_sheet 60 63 3 (.getfield 35) := ⟨by decide +kernel, rfl⟩
theorem iX4_sheet_63 : Ins mX4_sheet 63 64 1 (.iload_n 1) := ⟨by decide +kernel, rfl⟩
theorem iX4_sheet_64 : Ins mX4_sheet 64 65 1 (.aaload) := ⟨by decide +kernel, rfl⟩
theorem iX4_sheet_65 : Ins mX4_sheet 65 66 1 (.iload_n 2) := ⟨by decide +kernel, rfl⟩
theorem iX4_sheet_66 : Ins mX4_sheet 66 67 1 (.iload_n 2) := ⟨by decide +kernel, rfl⟩
theorem iX4_sheet_67 : InB mX4_sheet 67 70 74 (.ifCond .ne) := ⟨by decide +kernel, rfl⟩
theorem iX4_sheet_70 : Ins mX4_sheet 70 71 1 (.iconst 0) := ⟨by decide +kernel, rfl⟩
theorem iX4_sheet_71 : InB mX4_sheet 71 74 75 .goto := ⟨by decide +kernel, rfl⟩
theorem iX4_sheet_74 : Ins mX4_sheet 74 75 1 (.iload_n 3) := ⟨by decide +kernel, rfl⟩
theorem iX4_sheet_75 : Ins mX4_sheet 75 78 3 (.invokevirtual 232) := ⟨by decide +kernel, rfl⟩
theorem iX4_sheet_78 : Ins mX4_sheet 78 79 1 (.aload_n 0) := ⟨by decide +kernel, rfl⟩
theorem iX4_sheet_79 : Ins mX4_sheet 79 82 3 (.getfield 35) := ⟨by decide +kernel, rfl⟩
theorem iX4_sheet_82 : Ins mX4_sheet 82 83 1 (.iload_n 1) := ⟨by decide +kernel, rfl⟩
theorem iX4_sheet_83 : Ins mX4_sheet 83 84 1 (.aaload) := ⟨by decide +kernel, rfl⟩
theorem iX4_sheet_84 : Ins mX4_sheet 84 87 3 (.getfield 183) := ⟨by decide +kernel, rfl⟩
theorem iX4_sheet_87 : Ins mX4_sheet 87 88 1 (.ireturn) := ⟨by decide +kernel, rfl⟩
theorem iX4_write_0 : Ins mX4_write 0 1 1 (.iload_n 1) := ⟨by decide +kernel, rfl⟩
theorem iX4_write_1 : Ins mX4_write 1 2 1 (.iconst 3) := ⟨by decide +kernel, rfl⟩
theorem iX4_write_2 : Ins mX4_write 2 5 3 (.invokestatic 44) := ⟨by decide +kernel, rfl⟩
theorem iX4_write_5 : InB mX4_write 5 8 14 (.ifCond .ne) := ⟨by decide +kernel, rfl⟩
theorem iX4_write_8 : Ins mX4_write 8 9 1 (.aload_n 0) := ⟨by decide +kernel, rfl⟩
theorem iX4_write_9 : Ins mX4_write 9 10 1 (.iconst 0) := ⟨by decide +kernel, rfl⟩
theorem iX4_write_10 : Ins mX4_write 10 13 3 (.invokevirtual 48) := ⟨by decide +kernel, rfl⟩
theorem iX4_write_13 : Ins mX4_write 13 14 1 (.ireturn) := ⟨by decide +kernel, rfl⟩
theorem iX4_write_14 : Ins mX4_write 14 15 1 (.aload_n 0) := ⟨by decide +kernel, rfl⟩
theorem iX4_write_15 : Ins mX4_write 15 18 3 (.getfield 35) := ⟨by decide +kernel, rfl⟩
theorem iX4_write_18 : Ins mX4_write 18 19 1 (.iload_n 1) := ⟨by decide +kernel, rfl⟩
theorem iX4_write_19 : Ins mX4_write 19 20 1 (.aaload) := ⟨by decide +kernel, rfl⟩
theorem iX4_write_20 : Ins mX4_write 20 23 3 (.getfield 173) := ⟨by decide +kernel, rfl⟩
theorem iX4_write_23 : InB mX4_write 23 26 32 (.ifCond .ne) := ⟨by decide +kernel, rfl⟩
theorem iX4_write_26 : Ins mX4_write 26 27 1 (.aload_n 0) := ⟨by decide +kernel, rfl⟩
theorem iX4_write_27 : Ins mX4_write 27 28 1 (.iconst 5) := ⟨by decide +kernel, rfl⟩
theorem iX4_write_28 : Ins mX4_write 28 31 3 (.invokevirtual 48) := ⟨by decide +kernel, rfl⟩
theorem iX4_write_31 : Ins mX4_write 31 32 1 (.ireturn) := ⟨by decide +kernel, rfl⟩
theorem iX4_write_32 : Ins mX4_write 32 33 1 (.iload_n 2) := ⟨by decide +kernel, rfl⟩
theorem iX4_write_33 : Ins mX4_write 33 34 1 (.aload_n 0) := ⟨by decide +kernel, rfl⟩
theorem iX4_write_34 : Ins mX4_write 34 37 3 (.getfield 35) := ⟨by decide +kernel, rfl⟩
theorem iX4_write_37 : Ins mX4_write 37 38 1 (.iload_n 1) := ⟨by decide +kernel, rfl⟩
theorem iX4_write_38 : Ins mX4_write 38 39 1 (.aaload) := ⟨by decide +kernel, rfl⟩
theorem iX4_write_39 : Ins mX4_write 39 42 3 (.getfield 183) := ⟨by decide +kernel, rfl⟩
theorem iX4_write_42 : Ins mX4_write 42 43 1 (.iconst 1) := ⟨by decide +kernel, rfl⟩
theorem iX4_write_43 : Ins mX4_write 43 44 1 (.isub) := ⟨by decide +kernel, rfl⟩
theorem iX4_write_44 : Ins mX4_write 44 47 3 (.invokestatic 44) := ⟨by decide +kernel, rfl⟩
theorem iX4_write_47 : InB mX4_write 47 50 56 (.ifCond .ne) := ⟨by decide +kernel, rfl⟩
theorem iX4_write_50 : Ins mX4_write 50 51 1 (.aload_n 0) := ⟨by decide +kernel, rfl⟩
theorem iX4_write_51 : Ins mX4_write 51 52 1 (.iconst 0) := ⟨by decide +kernel, rfl⟩
theorem iX4_write_52 : Ins mX4_write 52 55 3 (.invokevirtual 48) := ⟨by decide +kernel, rfl⟩
theorem iX4_write_55 : Ins mX4_write 55 56 1 (.ireturn) := ⟨by decide +kernel, rfl⟩
theorem iX4_write_56 : Ins mX4_write 56 57 1 (.aload_n 0) := ⟨by decide +kernel, rfl⟩
theorem iX4_write_57 : Ins mX4_write 57 60 3 (.getfield 35) := ⟨by decide +kernel, rfl⟩
theorem iX4_write_60 : Ins mX4_write 60 61 1 (.iload_n 1) := ⟨by decide +kernel, rfl⟩
theorem iX4_write_61 : Ins mX4_write 61 62 1 (.aaload) := ⟨by decide +kernel, rfl⟩
theorem iX4_write_62 : Ins mX4_write 62 63 1 (.iload_n 2) := ⟨by decide +kernel, rfl⟩
theorem iX4_write_63 : Ins mX4_write 63 64 1 (.iload_n 3) := ⟨by decide +kernel, rfl⟩
theorem iX4_write_64 : Ins mX4_write 64 67 3 (.invokevirtual 235) := ⟨by decide +kernel, rfl⟩
theorem iX4_write_67 : Ins mX4_write 67 68 1 (.iconst 1) := ⟨by decide +kernel, rfl⟩
theorem iX4_write_68 : Ins mX4_write 68 69 1 (.ireturn) := ⟨by decide +kernel, rfl⟩
theorem iX4_copy_0 : Ins mX4_copy 0 1 1 (.iload_n 1) := ⟨by decide +kernel, rfl⟩
theorem iX4_copy_1 : Ins mX4_copy 1 2 1 (.iconst 3) := ⟨by decide +kernel, rfl⟩
theorem iX4_copy_2 : Ins mX4_copy 2 5 3 (.invokestatic 44) := ⟨by decide +kernel, rfl⟩
theorem iX4_copy_5 : InB mX4_copy 5 8 16 (.ifCond .eq) := ⟨by decide +kernel, rfl⟩
theorem iX4_copy_8 : Ins mX4_copy 8 9 1 (.iload_n 3) := ⟨by decide +kernel, rfl⟩
theorem iX4_copy_9 : Ins mX4_copy 9 10 1 (.iconst 3) := ⟨by decide +kernel, rfl⟩
theorem iX4_copy_10 : Ins mX4_copy 10 13 3 (.invokestatic 44) := ⟨by decide +kernel, rfl⟩
theorem iX4_copy_13 : InB mX4_copy 13 16 22 (.ifCond .ne) := ⟨by decide +kernel, rfl⟩
theorem iX4_copy_16 : Ins mX4_copy 16 17 1 (.aload_n 0) := ⟨by decide +kernel, rfl⟩
theorem iX4_copy_17 : Ins mX4_copy 17 18 1 (.iconst 0) := ⟨by decide +kernel, rfl⟩
theorem iX4_copy_18 : Ins mX4_copy 18 21 3 (.invokevirtual 48) := ⟨by decide +kernel, rfl⟩
theorem iX4_copy_21 : Ins mX4_copy 21 22 1 (.ireturn) := ⟨by decide +kernel, rfl⟩
theorem iX4_copy_22 : Ins mX4_copy 22 23 1 (.aload_n 0) := ⟨by decide +kernel, rfl⟩
theorem iX4_copy_23 : Ins mX4_copy 23 26 3 (.getfield 35) := ⟨by decide +kernel, rfl⟩
theorem iX4_copy_26 : Ins mX4_copy 26 27 1 (.iload_n 1) := ⟨by decide +kernel, rfl⟩
theorem iX4_copy_27 : Ins mX4_copy 27 28 1 (.aaload) := ⟨by decide +kernel, rfl⟩
theorem iX4_copy_28 : Ins mX4_copy 28 31 3 (.getfield 173) := ⟨by decide +kernel, rfl⟩
theorem iX4_copy_31 : InB mX4_copy 31 34 46 (.ifCond .eq) := ⟨by decide +kernel, rfl⟩
theorem iX4_copy_34 : Ins mX4_copy 34 35 1 (.aload_n 0) := ⟨by decide +kernel, rfl⟩
theorem iX4_copy_35 : Ins mX4_copy 35 38 3 (.getfield 35) := ⟨by decide +kernel, rfl⟩
theorem iX4_copy_38 : Ins mX4_copy 38 39 1 (.iload_n 3) := ⟨by decide +kernel, rfl⟩
theorem iX4_copy_39 : Ins mX4_copy 39 40 1 (.aaload) := ⟨by decide +kernel, rfl⟩
theorem iX4_copy_40 : Ins mX4_copy 40 43 3 (.getfield 173) := ⟨by decide +kernel, rfl⟩
theorem iX4_copy_43 : InB mX4_copy 43 46 52 (.ifCond .ne) := ⟨by decide +kernel, rfl⟩
theorem iX4_copy_46 : Ins mX4_copy 46 47 1 (.aload_n 0) := ⟨by decide +kernel, rfl⟩
theorem iX4_copy_47 : Ins mX4_copy 47 48 1 (.iconst 5) := ⟨by decide +kernel, rfl⟩
theorem iX4_copy_48 : Ins mX4_copy 48 51 3 (.invokevirtual 48) := ⟨by decide +kernel, rfl⟩
theorem iX4_copy_51 : Ins mX4_copy 51 52 1 (.ireturn) := ⟨by decide +kernel, rfl⟩
theorem iX4_copy_52 : Ins mX4_copy 52 53 1 (.aload_n 0) := ⟨by decide +kernel, rfl⟩
theorem iX4_copy_53 : Ins mX4_copy 53 56 3 (.getfield 35) := ⟨by decide +kernel, rfl⟩
theorem iX4_copy_56 : Ins mX4_copy 56 57 1 (.iload_n 1) := ⟨by decide +kernel, rfl⟩
theorem iX4_copy_57 : Ins mX4_copy 57 58 1 (.aaload) := ⟨by decide +kernel, rfl⟩
theorem iX4_copy_58 : Ins mX4_copy 58 61 3 (.getfield 173) := ⟨by decide +kernel, rfl⟩
theorem iX4_copy_61 : Ins mX4_copy 61 62 1 (.aload_n 0) := ⟨by decide +kernel, rfl⟩
theorem iX4_copy_62 : Ins mX4_copy 62 65 3 (.getfield 35) := ⟨by decide +kernel, rfl⟩
theorem iX4_copy_65 : Ins mX4_copy 65 66 1 (.iload_n 3) := ⟨by decide +kernel, rfl⟩
theorem iX4_copy_66 : Ins mX4_copy 66 67 1 (.aaload) := ⟨by decide +kernel, rfl⟩
theorem iX4_copy_67 : Ins mX4_copy 67 70 3 (.getfield 173) := ⟨by decide +kernel, rfl⟩
theorem iX4_copy_70 : InB mX4_copy 70 73 79 (.if_icmp .eq) := ⟨by decide +kernel, rfl⟩
theorem iX4_copy_73 : Ins mX4_copy 73 74 1 (.aload_n 0) := ⟨by decide +kernel, rfl⟩
theorem iX4_copy_74 : Ins mX4_copy 74 75 1 (.iconst 2) := ⟨by decide +kernel, rfl⟩
theorem iX4_copy_75 : Ins mX4_copy 75 78 3 (.invokevirtual 48) := ⟨by decide +kernel, rfl⟩
theorem iX4_copy_78 : Ins mX4_copy 78 79 1 (.ireturn) := ⟨by decide +kernel, rfl⟩
theorem iX4_copy_79 : Ins mX4_copy 79 80 1 (.aload_n 0) := ⟨by decide +kernel, rfl⟩
theorem iX4_copy_80 : Ins mX4_copy 80 83 3 (.getfield 35) := ⟨by decide +kernel, rfl⟩
theorem iX4_copy_83 : Ins mX4_copy 83 84 1 (.iload_n 1) := ⟨by decide +kernel, rfl⟩
theorem iX4_copy_84 : Ins mX4_copy 84 85 1 (.aaload) := ⟨by decide +kernel, rfl⟩
theorem iX4_copy_85 : Ins mX4_copy 85 86 1 (.iload_n 2) := ⟨by decide +kernel, rfl⟩
theorem iX4_copy_86 : Ins mX4_copy 86 88 2 (.iload 5) := ⟨by decide +kernel, rfl⟩
theorem iX4_copy_88 : Ins mX4_copy 88 91 3 (.invokevirtual 238) := ⟨by decide +kernel, rfl⟩
theorem iX4_copy_91 : InB mX4_copy 91 94 110 (.ifCond .eq) := ⟨by decide +kernel, rfl⟩
theorem iX4_copy_94 : Ins mX4_copy 94 95 1 (.aload_n 0) := ⟨by decide +kernel, rfl⟩
theorem iX4_copy_95 : Ins mX4_copy 95 98 3 (.getfield 35) := ⟨by decide +kernel, rfl⟩
theorem iX4_copy_98 : Ins mX4_copy 98 99 1 (.iload_n 3) := ⟨by decide +kernel, rfl⟩
theorem iX4_copy_99 : Ins mX4_copy 99 100 1 (.aaload) := ⟨by decide +kernel, rfl⟩
theorem iX4_copy_100 : Ins mX4_copy 100 102 2 (.iload 4) := ⟨by decide +kernel, rfl⟩
theorem iX4_copy_102 : Ins mX4_copy 102 104 2 (.iload 5) := ⟨by decide +kernel, rfl⟩
theorem iX4_copy_104 : Ins mX4_copy 104 107 3 (.invokevirtual 238) := ⟨by decide +kernel, rfl⟩
theorem iX4_copy_107 : InB mX4_copy 107 110 116 (.ifCond .ne) := ⟨by decide +kernel, rfl⟩
theorem iX4_copy_110 : Ins mX4_copy 110 111 1 (.aload_n 0) := ⟨by decide +kernel, rfl⟩
theorem iX4_copy_111 : Ins mX4_copy 111 112 1 (.iconst 0) := ⟨by decide +kernel, rfl⟩
theorem iX4_copy_112 : Ins mX4_copy 112 115 3 (.invokevirtual 48) := ⟨by decide +kernel, rfl⟩
theorem iX4_copy_115 : Ins mX4_copy 115 116 1 (.ireturn) := ⟨by decide +kernel, rfl⟩
theorem iX4_copy_116 : Ins mX4_copy 116 117 1 (.aload_n 0) := ⟨by decide +kernel, rfl⟩
theorem iX4_copy_117 : Ins mX4_copy 117 120 3 (.getfield 35) := ⟨by decide +kernel, rfl⟩
theorem iX4_copy_120 : Ins mX4_copy 120 121 1 (.iload_n 1) := ⟨by decide +kernel, rfl⟩
theorem iX4_copy_121 : Ins mX4_copy 121 122 1 (.aaload) := ⟨by decide +kernel, rfl⟩
theorem iX4_copy_122 : Ins mX4_copy 122 125 3 (.getfield 241) := ⟨by decide +kernel, rfl⟩
theorem iX4_copy_125 : Ins mX4_copy 125 126 1 (.iload_n 2) := ⟨by decide +kernel, rfl⟩
theorem iX4_copy_126 : Ins mX4_copy 126 127 1 (.aload_n 0) := ⟨by decide +kernel, rfl⟩
theorem iX4_copy_127 : Ins mX4_copy 127 130 3 (.getfield 35) := ⟨by decide +kernel, rfl⟩
theorem iX4_copy_130 : Ins mX4_copy 130 131 1 (.iload_n 3) := ⟨by decide +kernel, rfl⟩
theorem iX4_copy_131 : Ins mX4_copy 131 132 1 (.aaload) := ⟨by decide +kernel, rfl⟩
theorem iX4_copy_132 : Ins mX4_copy 132 135 3 (.getfield 241) := ⟨by decide +kernel, rfl⟩
theorem iX4_copy_135 : Ins mX4_copy 135 137 2 (.iload 4) := ⟨by decide +kernel, rfl⟩
theorem iX4_copy_137 : Ins mX4_copy 137 139 2 (.iload 5) := ⟨by decide +kernel, rfl⟩
theorem iX4_copy_139 : Ins mX4_copy 139 142 3 (.invokestatic 244) := ⟨by decide +kernel, rfl⟩
theorem iX4_copy_142 : Ins mX4_copy 142 144 2 (.iload 5) := ⟨by decide +kernel, rfl⟩
theorem iX4_copy_144 : Ins mX4_copy 144 145 1 (.ireturn) := ⟨by decide +kernel, rfl⟩
theorem iX4_load_0 : Ins mX4_load 0 1 1 (.iload_n 1) := ⟨by decide +kernel, rfl⟩
theorem iX4_load_1 : Ins mX4_load 1 2 1 (.iconst 3) := ⟨by decide +kernel, rfl⟩
theorem iX4_load_2 : Ins mX4_load 2 5 3 (.invokestatic 44) := ⟨by decide +kernel, rfl⟩
theorem iX4_load_5 : InB mX4_load 5 8 14 (.ifCond .ne) := ⟨by decide +kernel, rfl⟩
theorem iX4_load_8 : Ins mX4_load 8 9 1 (.aload_n 0) := ⟨by decide +kernel, rfl⟩
theorem iX4_load_9 : Ins mX4_load 9 10 1 (.iconst 0) := ⟨by decide +kernel, rfl⟩
theorem iX4_load_10 : Ins mX4_load 10 13 3 (.invokevirtual 48) := ⟨by decide +kernel, rfl⟩
theorem iX4_load_13 : Ins mX4_load 13 14 1 (.ireturn) := ⟨by decide +kernel, rfl⟩
theorem iX4_load_14 : Ins mX4_load 14 15 1 (.aload_n 0) := ⟨by decide +kernel, rfl⟩
theorem iX4_load_15 : Ins mX4_load 15 18 3 (.getfield 35) := ⟨by decide +kernel, rfl⟩
theorem iX4_load_18 : Ins mX4_load 18 19 1 (.iload_n 1) := ⟨by decide +kernel, rfl⟩
theorem iX4_load_19 : Ins mX4_load 19 20 1 (.aaload) := ⟨by decide +kernel, rfl⟩
theorem iX4_load_20 : Ins mX4_load 20 23 3 (.getfield 173) := ⟨by decide +kernel, rfl⟩
theorem iX4_load_23 : InB mX4_load 23 26 32 (.ifCond .ne) := ⟨by decide +kernel, rfl⟩
theorem iX4_load_26 : Ins mX4_load 26 27 1 (.aload_n 0) := ⟨by decide +kernel, rfl⟩
theorem iX4_load_27 : Ins mX4_load 27 28 1 (.iconst 5) := ⟨by decide +kernel, rfl⟩
theorem iX4_load_28 : Ins mX4_load 28 31 3 (.invokevirtual 48) := ⟨by decide +kernel, rfl⟩
theorem iX4_load_31 : Ins mX4_load 31 32 1 (.ireturn) := ⟨by decide +kernel, rfl⟩
theorem iX4_load_32 : Ins mX4_load 32 33 1 (.aload_n 0) := ⟨by decide +kernel, rfl⟩
theorem iX4_load_33 : Ins mX4_load 33 36 3 (.getfield 35) := ⟨by decide +kernel, rfl⟩
theorem iX4_load_36 : Ins mX4_load 36 37 1 (.iload_n 1) := ⟨by decide +kernel, rfl⟩
theorem iX4_load_37 : Ins mX4_load 37 38 1 (.aaload) := ⟨by decide +kernel, rfl⟩
theorem iX4_load_38 : Ins mX4_load 38 41 3 (.getfield 183) := ⟨by decide +kernel, rfl⟩
theorem iX4_load_41 : Ins mX4_load 41 42 1 (.aload_n 0) := ⟨by decide +kernel, rfl⟩
theorem iX4_load_42 : Ins mX4_load 42 45 3 (.getfield 10) := ⟨by decide +kernel, rfl⟩
theorem iX4_load_45 : Ins mX4_load 45 48 3 (.getfield 55) := ⟨by decide +kernel, rfl⟩
theorem iX4_load_48 : Ins mX4_load 48 51 3 (.invokestatic 250) := ⟨by decide +kernel, rfl⟩
theorem iX4_load_51 : Ins mX4_load 51 52 1 (.istore_n 2) := ⟨by decide +kernel, rfl⟩
theorem iX4_load_52 : Ins mX4_load 52 53 1 (.iconst 0) := ⟨by decide +kernel, rfl⟩
theorem iX4_load_53 : Ins mX4_load 53 54 1 (.istore_n 3) := ⟨by decide +kernel, rfl⟩
theorem iX4_load_54 : Ins mX4_load 54 55 1 (.iload_n 3) := ⟨by decide +kernel, rfl⟩
theorem iX4_load_55 : Ins mX4_load 55 56 1 (.iload_n 2) := ⟨by decide +kernel, rfl⟩
theorem iX4_load_56 : InB mX4_load 56 59 104 (.if_icmp .ge) := ⟨by decide +kernel, rfl⟩
theorem iX4_load_59 : Ins mX4_load 59 60 1 (.aload_n 0) := ⟨by decide +kernel, rfl⟩
theorem iX4_load_60 : Ins mX4_load 60 63 3 (.getfield 35) := ⟨by decide +kernel, rfl⟩
theorem iX4_load_63 : Ins mX4_load 63 64 1 (.iload_n 1) := ⟨by decide +kernel, rfl⟩
theorem iX4_load_64 : Ins mX4_load 64 65 1 (.aaload) := ⟨by decide +kernel, rfl⟩
theorem iX4_load_65 : Ins mX4_load 65 68 3 (.getfield 241) := ⟨by decide +kernel, rfl⟩
theorem iX4_load_68 : Ins mX4_load 68 69 1 (.iload_n 3) := ⟨by decide +kernel, rfl⟩
theorem iX4_load_69 : Ins mX4_load 69 70 1 (.iaload) := ⟨by decide +kernel, rfl⟩
theorem iX4_load_70 : Ins mX4_load 70 72 2 (.bipush 9) := ⟨by decide +kernel, rfl⟩
theorem iX4_load_72 : Ins mX4_load 72 75 3 (.invokestatic 44) := ⟨by decide +kernel, rfl⟩
theorem iX4_load_75 : InB mX4_load 75 78 104 (.ifCond .eq) := ⟨by decide +kernel, rfl⟩
theorem iX4_load_78 : Ins mX4_load 78 79 1 (.aload_n 0) := ⟨by decide +kernel, rfl⟩
theorem iX4_load_79 : Ins mX4_load 79 82 3 (.getfield 10) := ⟨by decide +kernel, rfl⟩
theorem iX4_load_82 : Ins mX4_load 82 85 3 (.getfield 76) := ⟨by decide +kernel, rfl⟩
theorem iX4_load_85 : Ins mX4_load 85 86 1 (.iload_n 3) := ⟨by decide +kernel, rfl⟩
theorem iX4_load_86 : Ins mX4_load 86 87 1 (.aload_n 0) := ⟨by decide +kernel, rfl⟩
theorem iX4_load_87 : Ins mX4_load 87 90 3 (.getfield 35) := ⟨by decide +kernel, rfl⟩
theorem iX4_load_90 : Ins mX4_load 90 91 1 (.iload_n 1) := ⟨by decide +kernel, rfl⟩
theorem iX4_load_91 : Ins mX4_load 91 92 1 (.aaload) := ⟨by decide +kernel, rfl⟩
theorem iX4_load_92 : Ins mX4_load 92 95 3 (.getfield 241) := ⟨by decide +kernel, rfl⟩
theorem iX4_load_95 : Ins mX4_load 95 96 1 (.iload_n 3) := ⟨by decide +kernel, rfl⟩
theorem iX4_load_96 : Ins mX4_load 96 97 1 (.iaload) := ⟨by decide +kernel, rfl⟩
theorem iX4_load_97 : Ins mX4_load 97 98 1 (.iastore) := ⟨by decide +kernel, rfl⟩
theorem iX4_load_98 : Ins mX4_load 98 101 3 (.iinc 3 1) := ⟨by decide +kernel, rfl⟩
theorem iX4_load_101 : InB mX4_load 101 104 54 .goto := ⟨by decide +kernel, rfl⟩
theorem iX4_load_104 : Ins mX4_load 104 105 1 (.iload_n 3) := ⟨by decide +kernel, rfl⟩
theorem iX4_load_105 : Ins mX4_load 105 106 1 (.ireturn) := ⟨by decide +kernel, rfl⟩
theorem iX4_judge_0 : Ins mX4_judge 0 1 1 (.iload_n 1) := ⟨by decide +kernel, rfl⟩
theorem iX4_judge_1 : Ins mX4_judge 1 2 1 (.iconst 3) := ⟨by decide +kernel, rfl⟩
theorem iX4_judge_2 : Ins mX4_judge 2 5 3 (.invokestatic 44) := ⟨by decide +kernel, rfl⟩
theorem iX4_judge_5 : InB mX4_judge 5 8 14 (.ifCond .ne) := ⟨by decide +kernel, rfl⟩
theorem iX4_judge_8 : Ins mX4_judge 8 9 1 (.aload_n 0) := ⟨by decide +kernel, rfl⟩
theorem iX4_judge_9 : Ins mX4_judge 9 10 1 (.iconst 0) := ⟨by decide +kernel, rfl⟩
theorem iX4_judge_10 : Ins mX4_judge 10 13 3 (.invokevirtual 48) := ⟨by decide +kernel, rfl⟩
theorem iX4_judge_13 : Ins mX4_judge 13 14 1 (.ireturn) := ⟨by decide +kernel, rfl⟩
theorem iX4_judge_14 : Ins mX4_judge 14 15 1 (.aload_n 0) := ⟨by decide +kernel, rfl⟩
theorem iX4_judge_15 : Ins mX4_judge 15 18 3 (.getfield 35) := ⟨by decide +kernel, rfl⟩
theorem iX4_judge_18 : Ins mX4_judge 18 19 1 (.iload_n 1) := ⟨by decide +kernel, rfl⟩
theorem iX4_judge_19 : Ins mX4_judge 19 20 1 (.aaload) := ⟨by decide +kernel, rfl⟩
theorem iX4_judge_20 : Ins mX4_judge 20 23 3 (.getfield 173) := ⟨by decide +kernel, rfl⟩
theorem iX4_judge_23 : InB mX4_judge 23 26 32 (.ifCond .ne) := ⟨by decide +kernel, rfl⟩
theorem iX4_judge_26 : Ins mX4_judge 26 27 1 (.aload_n 0) := ⟨by decide +kernel, rfl⟩
theorem iX4_judge_27 : Ins mX4_judge 27 28 1 (.iconst 5) := ⟨by decide +kernel, rfl⟩
theorem iX4_judge_28 : Ins mX4_judge 28 31 3 (.invokevirtual 48) := ⟨by decide +kernel, rfl⟩
theorem iX4_judge_31 : Ins mX4_judge 31 32 1 (.ireturn) := ⟨by decide +kernel, rfl⟩
theorem iX4_judge_32 : Ins mX4_judge 32 33 1 (.iconst 0) := ⟨by decide +kernel, rfl⟩
theorem iX4_judge_33 : Ins mX4_judge 33 34 1 (.istore_n 2) := ⟨by decide +kernel, rfl⟩
theorem iX4_judge_34 : Ins mX4_judge 34 35 1 (.iload_n 2) := ⟨by decide +kernel, rfl⟩
theorem iX4_judge_35 : Ins mX4_judge 35 36 1 (.aload_n 0) := ⟨by decide +kernel, rfl⟩
theorem iX4_judge_36 : Ins mX4_judge 36 39 3 (.getfield 35) := ⟨by decide +kernel, rfl⟩
theorem iX4_judge_39 : Ins mX4_judge 39 40 1 (.iload_n 1) := ⟨by decide +kernel, rfl⟩
theorem iX4_judge_40 : Ins mX4_judge 40 41 1 (.aaload) := ⟨by decide +kernel, rfl⟩
theorem iX4_judge_41 : Ins mX4_judge 41 44 3 (.getfield 183) := ⟨by decide +kernel, rfl⟩
theorem iX4_judge_44 : InB mX4_judge 44 47 91 (.if_icmp .ge) := ⟨by decide +kernel, rfl⟩
theorem iX4_judge_47 : Ins mX4_judge 47 48 1 (.aload_n 0) := ⟨by decide +kernel, rfl⟩
theorem iX4_judge_48 : Ins mX4_judge 48 51 3 (.getfield 10) := ⟨by decide +kernel, rfl⟩
theorem iX4_judge_51 : Ins mX4_judge 51 52 1 (.iload_n 2) := ⟨by decide +kernel, rfl⟩
theorem iX4_judge_52 : Ins mX4_judge 52 55 3 (.invokevirtual 92) := ⟨by decide +kernel, rfl⟩
theorem iX4_judge_55 : InB mX4_judge 55 58 81 (.ifCond .eq) := ⟨by decide +kernel, rfl⟩
theorem iX4_judge_58 : Ins mX4_judge 58 59 1 (.aload_n 0) := ⟨by decide +kernel, rfl⟩
theorem iX4_judge_59 : Ins mX4_judge 59 62 3 (.getfield 35) := ⟨by decide +kernel, rfl⟩
theorem iX4_judge_62 : Ins mX4_judge 62 63 1 (.iload_n 1) := ⟨by decide +kernel, rfl⟩
theorem iX4_judge_63 : Ins mX4_judge 63 64 1 (.aaload) := ⟨by decide +kernel, rfl⟩
theorem iX4_judge_64 : Ins mX4_judge 64 67 3 (.getfield 241) := ⟨by decide +kernel, rfl⟩
theorem iX4_judge_67 : Ins mX4_judge 67 68 1 (.iload_n 2) := ⟨by decide +kernel, rfl⟩
theorem iX4_judge_68 : Ins mX4_judge 68 69 1 (.iaload) := ⟨by decide +kernel, rfl⟩
theorem iX4_judge_69 : Ins mX4_judge 69 70 1 (.aload_n 0) := ⟨by decide +kernel, rfl⟩
theorem iX4_judge_70 : Ins mX4_judge 70 73 3 (.getfield 10) := ⟨by decide +kernel, rfl⟩
theorem iX4_judge_73 : Ins mX4_judge 73 76 3 (.getfield 101) := ⟨by decide +kernel, rfl⟩
theorem iX4_judge_76 : Ins mX4_judge 76 77 1 (.iload_n 2) := ⟨by decide +kernel, rfl⟩
theorem iX4_judge_77 : Ins mX4_judge 77 78 1 (.iaload) := ⟨by decide +kernel, rfl⟩
theorem iX4_judge_78 : InB mX4_judge 78 81 85 (.if_icmp .eq) := ⟨by decide +kernel, rfl⟩
theorem iX4_judge_81 : Ins mX4_judge 81 82 1 (.iconst 1) := ⟨by decide +kernel, rfl⟩
theorem iX4_judge_82 : Ins mX4_judge 82 83 1 (.iload_n 2) := ⟨by decide +kernel, rfl⟩
theorem iX4_judge_83 : Ins mX4_judge 83 84 1 (.iadd) := ⟨by decide +kernel, rfl⟩
theorem iX4_judge_84 : Ins mX4_judge 84 85 1 (.ireturn) := ⟨by decide +kernel, rfl⟩
theorem iX4_judge_85 : Ins mX4_judge 85 88 3 (.iinc 2 1) := ⟨by decide +kernel, rfl⟩
theorem iX4_judge_88 : InB mX4_judge 88 91 34 .goto := ⟨by decide +kernel, rfl⟩
theorem iX4_judge_91 : Ins mX4_judge 91 92 1 (.iconst 0) := ⟨by decide +kernel, rfl⟩
theorem iX4_judge_92 : Ins mX4_judge 92 93 1 (.ireturn) := ⟨by decide +kernel, rfl⟩
theorem iX4_image_0 : Ins mX4_image 0 1 1 (.aload_n 0) := ⟨by decide +kernel, rfl⟩
theorem iX4_image_1 : Ins mX4_image 1 4 3 (.getfield 19) := ⟨by decide +kernel, rfl⟩
theorem iX4_image_4 : Ins mX4_image 4 5 1 (.aload_n 0) := ⟨by decide +kernel, rfl⟩
theorem iX4_image_5 : Ins mX4_image 5 8 3 (.getfield 10) := ⟨by decide +kernel, rfl⟩
theorem iX4_image_8 : Ins mX4_image 8 11 3 (.invokevirtual 147) := ⟨by decide +kernel, rfl⟩
theorem iX4_image_11 : Ins mX4_image 11 12 1 (.aload_n 0) := ⟨by decide +kernel, rfl⟩
theorem iX4_image_12 : Ins mX4_image 12 13 1 (.iconst 1) := ⟨by decide +kernel, rfl⟩
theorem iX4_image_13 : Ins mX4_image 13 16 3 (.putfield 22) := ⟨by decide +kernel, rfl⟩
theorem iX4_image_16 : Ins mX4_image 16 17 1 (.iconst 1) := ⟨by decide +kernel, rfl⟩
theorem iX4_image_17 : Ins mX4_image 17 18 1 (.ireturn) := ⟨by decide +kernel, rfl⟩
theorem iX4_undo_0 : Ins mX4_undo 0 1 1 (.aload_n 0) := ⟨by decide +kernel, rfl⟩
theorem iX4_undo_1 : Ins mX4_undo 1 4 3 (.getfield 22) := ⟨by decide +kernel, rfl⟩
theorem iX4_undo_4 : InB mX4_undo 4 7 13 (.ifCond .ne) := ⟨by decide +kernel, rfl⟩
theorem iX4_undo_7 : Ins mX4_undo 7 8 1 (.aload_n 0) := ⟨by decide +kernel, rfl⟩
theorem iX4_undo_8 : Ins mX4_undo 8 9 1 (.iconst 3) := ⟨by decide +kernel, rfl⟩
theorem iX4_undo_9 : Ins mX4_undo 9 12 3 (.invokevirtual 48) := ⟨by decide +kernel, rfl⟩
theorem iX4_undo_12 : Ins mX4_undo 12 13 1 (.ireturn) := ⟨by decide +kernel, rfl⟩
theorem iX4_undo_13 : Ins mX4_undo 13 14 1 (.aload_n 0) := ⟨by decide +kernel, rfl⟩
theorem iX4_undo_14 : Ins mX4_undo 14 17 3 (.getfield 10) := ⟨by decide +kernel, rfl⟩
theorem iX4_undo_17 : Ins mX4_undo 17 18 1 (.aload_n 0) := ⟨by decide +kernel, rfl⟩
theorem iX4_undo_18 : Ins mX4_undo 18 21 3 (.getfield 19) := ⟨by decide +kernel, rfl⟩
theorem iX4_undo_21 : Ins mX4_undo 21 24 3 (.invokevirtual 147) := ⟨by decide +kernel, rfl⟩
theorem iX4_undo_24 : Ins mX4_undo 24 25 1 (.aload_n 0) := ⟨by decide +kernel, rfl⟩
theorem iX4_undo_25 : Ins mX4_undo 25 28 3 (.getfield 10) := ⟨by decide +kernel, rfl⟩
theorem iX4_undo_28 : Ins mX4_undo 28 31 3 (.getfield 117) := ⟨by decide +kernel, rfl⟩
theorem iX4_undo_31 : Ins mX4_undo 31 32 1 (.ireturn) := ⟨by decide +kernel, rfl⟩
theorem iX4_tear_0 : Ins mX4_tear 0 1 1 (.aload_n 0) := ⟨by decide +kernel, rfl⟩
theorem iX4_tear_1 : Ins mX4_tear 1 4 3 (.getfield 22) := ⟨by decide +kernel, rfl⟩
theorem iX4_tear_4 : InB mX4_tear 4 7 11 (.ifCond .eq) := ⟨by decide +kernel, rfl⟩
theorem iX4_tear_7 : Ins mX4_tear 7 8 1 (.iconst 1) := ⟨by decide +kernel, rfl⟩
theorem iX4_tear_8 : InB mX4_tear 8 11 12 .goto := ⟨by decide +kernel, rfl⟩
theorem iX4_tear_11 : Ins mX4_tear 11 12 1 (.iconst 0) := ⟨by decide +kernel, rfl⟩
theorem iX4_tear_12 : Ins mX4_tear 12 13 1 (.istore_n 1) := ⟨by decide +kernel, rfl⟩
theorem iX4_tear_13 : Ins mX4_tear 13 14 1 (.aload_n 0) := ⟨by decide +kernel, rfl⟩
theorem iX4_tear_14 : Ins mX4_tear 14 15 1 (.iconst 0) := ⟨by decide +kernel, rfl⟩
theorem iX4_tear_15 : Ins mX4_tear 15 18 3 (.putfield 22) := ⟨by decide +kernel, rfl⟩
theorem iX4_tear_18 : Ins mX4_tear 18 19 1 (.iload_n 1) := ⟨by decide +kernel, rfl⟩
theorem iX4_tear_19 : Ins mX4_tear 19 20 1 (.ireturn) := ⟨by decide +kernel, rfl⟩
theorem iX4_count_0 : Ins mX4_count 0 1 1 (.iload_n 1) := ⟨by decide +kernel, rfl⟩
theorem iX4_count_1 : decode mX4_count.2.1 1 = .ok (.tableswitch 114 0 7 #[47, 55, 63, 71, 79, 87, 98, 106], 47) := by decide +kernel
theorem iX4_count_48 : Ins mX4_count 48 49 1 (.aload_n 0) := ⟨by decide +kernel, rfl⟩
theorem iX4_count_49 : Ins mX4_count 49 52 3 (.getfield 10) := ⟨by decide +kernel, rfl⟩
theorem iX4_count_52 : Ins mX4_count 52 55 3 (.getfield 117) := ⟨by decide +kernel, rfl⟩
theorem iX4_count_55 : Ins mX4_count 55 56 1 (.ireturn) := ⟨by decide +kernel, rfl⟩
theorem iX4_count_56 : Ins mX4_count 56 57 1 (.aload_n 0) := ⟨by decide +kernel, rfl⟩
theorem iX4_count_57 : Ins mX4_count 57 60 3 (.getfield 10) := ⟨by decide +kernel, rfl⟩
theorem iX4_count_60 : Ins mX4_count 60 63 3 (.getfield 55) := ⟨by decide +kernel, rfl⟩
theorem iX4_count_63 : Ins mX4_count 63 64 1 (.ireturn) := ⟨by decide +kernel, rfl⟩
theorem iX4_count_64 : Ins mX4_count 64 65 1 (.aload_n 0) := ⟨by decide +kernel, rfl⟩
theorem iX4_count_65 : Ins mX4_count 65 68 3 (.getfield 10) := ⟨by decide +kernel, rfl⟩
theorem iX4_count_68 : Ins mX4_count 68 71 3 (.getfield 67) := ⟨by decide +kernel, rfl⟩
theorem iX4_count_71 : Ins mX4_count 71 72 1 (.ireturn) := ⟨by decide +kernel, rfl⟩
theorem iX4_count_72 : Ins mX4_count 72 73 1 (.aload_n 0) := ⟨by decide +kernel, rfl⟩
theorem iX4_count_73 : Ins mX4_count 73 76 3 (.getfield 10) := ⟨by decide +kernel, rfl⟩
theorem iX4_count_76 : Ins mX4_count 76 79 3 (.getfield 125) := ⟨by decide +kernel, rfl⟩
theorem iX4_count_79 : Ins mX4_count 79 80 1 (.ireturn) := ⟨by decide +kernel, rfl⟩
theorem iX4_count_80 : Ins mX4_count 80 81 1 (.aload_n 0) := ⟨by decide +kernel, rfl⟩
theorem iX4_count_81 : Ins mX4_count 81 84 3 (.getfield 10) := ⟨by decide +kernel, rfl⟩
theorem iX4_count_84 : Ins mX4_count 84 87 3 (.invokevirtual 135) := ⟨by decide +kernel, rfl⟩
theorem iX4_count_87 : Ins mX4_count 87 88 1 (.ireturn) := ⟨by decide +kernel, rfl⟩
theorem iX4_count_88 : Ins mX4_count 88 89 1 (.aload_n 0) := ⟨by decide +kernel, rfl⟩
theorem iX4_count_89 : Ins mX4_count 89 92 3 (.getfield 29) := ⟨by decide +kernel, rfl⟩
theorem iX4_count_92 : Ins mX4_count 92 95 3 (.getfield 209) := ⟨by decide +kernel, rfl⟩
theorem iX4_count_95 : Ins mX4_count 95 98 3 (.getfield 213) := ⟨by decide +kernel, rfl⟩
theorem iX4_count_98 : Ins mX4_count 98 99 1 (.ireturn) := ⟨by decide +kernel, rfl⟩
theorem iX4_count_99 : Ins mX4_count 99 100 1 (.aload_n 0) := ⟨by decide +kernel, rfl⟩
theorem iX4_count_100 : Ins mX4_count 100 103 3 (.getfield 10) := ⟨by decide +kernel, rfl⟩
theorem iX4_count_103 : Ins mX4_count 103 106 3 (.getfield 206) := ⟨by decide +kernel, rfl⟩
theorem iX4_count_106 : Ins mX4_count 106 107 1 (.ireturn) := ⟨by decide +kernel, rfl⟩
theorem iX4_count_107 : Ins mX4_count 107 108 1 (.aload_n 0) := ⟨by decide +kernel, rfl⟩
theorem iX4_count_108 : Ins mX4_count 108 111 3 (.getfield 10) := ⟨by decide +kernel, rfl⟩
theorem iX4_count_111 : Ins mX4_count 111 114 3 (.invokevirtual 255) := ⟨by decide +kernel, rfl⟩
theorem iX4_count_114 : Ins mX4_count 114 115 1 (.ireturn) := ⟨by decide +kernel, rfl⟩
theorem iX4_count_115 : Ins mX4_count 115 116 1 (.aload_n 0) := ⟨by decide +kernel, rfl⟩
theorem iX4_count_116 : Ins mX4_count 116 117 1 (.iconst 0) := ⟨by decide +kernel, rfl⟩
theorem iX4_count_117 : Ins mX4_count 117 120 3 (.invokevirtual 48) := ⟨by decide +kernel, rfl⟩
theorem iX4_count_120 : Ins mX4_count 120 121 1 (.ireturn) := ⟨by decide +kernel, rfl⟩
theorem iX4_status_0 : Ins mX4_status 0 1 1 (.iload_n 1) := ⟨by decide +kernel, rfl⟩
theorem iX4_status_1 : Ins mX4_status 1 2 1 (.iconst (-1)) := ⟨by decide +kernel, rfl⟩
theorem iX4_status_2 : InB mX4_status 2 5 32 (.if_icmp .ne) := ⟨by decide +kernel, rfl⟩
theorem iX4_status_5 : Ins mX4_status 5 6 1 (.iconst 0) := ⟨by decide +kernel, rfl⟩
theorem iX4_status_6 : Ins mX4_status 6 7 1 (.istore_n 2) := ⟨by decide +kernel, rfl⟩
theorem iX4_status_7 : Ins mX4_status 7 8 1 (.iconst 0) := ⟨by decide +kernel, rfl⟩
theorem iX4_status_8 : Ins mX4_status 8 9 1 (.istore_n 3) := ⟨by decide +kernel, rfl⟩
theorem iX4_status_9 : Ins mX4_status 9 10 1 (.iload_n 3) := ⟨by decide +kernel, rfl⟩
theorem iX4_status_10 : Ins mX4_status 10 12 2 (.bipush 7) := ⟨by decide +kernel, rfl⟩
theorem iX4_status_12 : InB mX4_status 12 15 30 (.if_icmp .ge) := ⟨by decide +kernel, rfl⟩
theorem iX4_status_15 : Ins mX4_status 15 16 1 (.iload_n 2) := ⟨by decide +kernel, rfl⟩
theorem iX4_status_16 : Ins mX4_status 16 17 1 (.aload_n 0) := ⟨by decide +kernel, rfl⟩
theorem iX4_status_17 : Ins mX4_status 17 20 3 (.getfield 40) := ⟨by decide +kernel, rfl⟩
theorem iX4_status_20 : Ins mX4_status 20 21 1 (.iload_n 3) := ⟨by decide +kernel, rfl⟩
theorem iX4_status_21 : Ins mX4_status 21 22 1 (.iaload) := ⟨by decide +kernel, rfl⟩
theorem iX4_status_22 : Ins mX4_status 22 23 1 (.iadd) := ⟨by decide +kernel, rfl⟩
theorem iX4_status_23 : Ins mX4_status 23 24 1 (.istore_n 2) := ⟨by decide +kernel, rfl⟩
theorem iX4_status_24 : Ins mX4_status 24 27 3 (.iinc 3 1) := ⟨by decide +kernel, rfl⟩
theorem iX4_status_27 : InB mX4_status 27 30 9 .goto := ⟨by decide +kernel, rfl⟩
theorem iX4_status_30 : Ins mX4_status 30 31 1 (.iload_n 2) := ⟨by decide +kernel, rfl⟩
theorem iX4_status_31 : Ins mX4_status 31 32 1 (.ireturn) := ⟨by decide +kernel, rfl⟩
theorem iX4_status_32 : Ins mX4_status 32 33 1 (.iload_n 1) := ⟨by decide +kernel, rfl⟩
theorem iX4_status_33 : Ins mX4_status 33 35 2 (.bipush 6) := ⟨by decide +kernel, rfl⟩
theorem iX4_status_35 : Ins mX4_status 35 38 3 (.invokestatic 44) := ⟨by decide +kernel, rfl⟩
theorem iX4_status_38 : InB mX4_status 38 41 50 (.ifCond .eq) := ⟨by decide +kernel, rfl⟩
theorem iX4_status_41 : Ins mX4_status 41 42 1 (.aload_n 0) := ⟨by decide +kernel, rfl⟩
theorem iX4_status_42 : Ins mX4_status 42 45 3 (.getfield 40) := ⟨by decide +kernel, rfl⟩
theorem iX4_status_45 : Ins mX4_status 45 46 1 (.iload_n 1) := ⟨by decide +kernel, rfl⟩
theorem iX4_status_46 : Ins mX4_status 46 47 1 (.iaload) := ⟨by decide +kernel, rfl⟩
theorem iX4_status_47 : InB mX4_status 47 50 55 .goto := ⟨by decide +kernel, rfl⟩
theorem iX4_status_50 : Ins mX4_status 50 51 1 (.aload_n 0) := ⟨by decide +kernel, rfl⟩
theorem iX4_status_51 : Ins mX4_status 51 52 1 (.iconst 0) := ⟨by decide +kernel, rfl⟩
theorem iX4_status_52 : Ins mX4_status 52 55 3 (.invokevirtual 48) := ⟨by decide +kernel, rfl⟩
theorem iX4_status_55 : Ins mX4_status 55 56 1 (.ireturn) := ⟨by decide +kernel, rfl⟩
theorem iX4_finding_0 : Ins mX4_finding 0 1 1 (.aload_n 0) := ⟨by decide +kernel, rfl⟩
theorem iX4_finding_1 : Ins mX4_finding 1 4 3 (.getfield 40) := ⟨by decide +kernel, rfl⟩
theorem iX4_finding_4 : Ins mX4_finding 4 5 1 (.iload_n 1) := ⟨by decide +kernel, rfl⟩
theorem iX4_finding_5 : Ins mX4_finding 5 6 1 (.dup2) := ⟨by decide +kernel, rfl⟩
theorem iX4_finding_6 : Ins mX4_finding 6 7 1 (.iaload) := ⟨by decide +kernel, rfl⟩
theorem iX4_finding_7 : Ins mX4_finding 7 8 1 (.iconst 1) := ⟨by decide +kernel, rfl⟩
theorem iX4_finding_8 : Ins mX4_finding 8 9 1 (.iadd) := ⟨by decide +kernel, rfl⟩
theorem iX4_finding_9 : Ins mX4_finding 9 10 1 (.iastore) := ⟨by decide +kernel, rfl⟩
theorem iX4_finding_10 : Ins mX4_finding 10 13 3 (.ldc_w 258) := ⟨by decide +kernel, rfl⟩
theorem iX4_finding_13 : Ins mX4_finding 13 14 1 (.iload_n 1) := ⟨by decide +kernel, rfl⟩
theorem iX4_finding_14 : Ins mX4_finding 14 15 1 (.isub) := ⟨by decide +kernel, rfl⟩
theorem iX4_finding_15 : Ins mX4_finding 15 16 1 (.ireturn) := ⟨by decide +kernel, rfl⟩
theorem iX4_within_0 : Ins mX4_within 0 1 1 (.iload_n 0) := ⟨by decide +kernel, rfl⟩
theorem iX4_within_1 : InB mX4_within 1 4 13 (.ifCond .lt) := ⟨by decide +kernel, rfl⟩
theorem iX4_within_4 : Ins mX4_within 4 5 1 (.iload_n 0) := ⟨by decide +kernel, rfl⟩
theorem iX4_within_5 : Ins mX4_within 5 6 1 (.iload_n 1) := ⟨by decide +kernel, rfl⟩
theorem iX4_within_6 : InB mX4_within 6 9 13 (.if_icmp .gt) := ⟨by decide +kernel, rfl⟩
theorem iX4_within_9 : Ins mX4_within 9 10 1 (.iconst 1) := ⟨by decide +kernel, rfl⟩
theorem iX4_within_10 : InB mX4_within 10 13 14 .goto := ⟨by decide +kernel, rfl⟩
theorem iX4_within_13 : Ins mX4_within 13 14 1 (.iconst 0) := ⟨by decide +kernel, rfl⟩
theorem iX4_within_14 : Ins mX4_within 14 15 1 (.ireturn) := ⟨by decide +kernel, rfl⟩
theorem iX4_exchange_0 : Ins mX4_exchange 0 1 1 (.iload_n 3) := ⟨by decide +kernel, rfl⟩
theorem iX4_exchange_1 : Ins mX4_exchange 1 3 2 (.iload 4) := ⟨by decide +kernel, rfl⟩
theorem iX4_exchange_3 : Ins mX4_exchange 3 6 3 (.invokestatic 44) := ⟨by decide +kernel, rfl⟩
theorem iX4_exchange_6 : InB mX4_exchange 6 9 15 (.ifCond .ne) := ⟨by decide +kernel, rfl⟩
theorem iX4_exchange_9 : Ins mX4_exchange 9 10 1 (.aload_n 0) := ⟨by decide +kernel, rfl⟩
theorem iX4_exchange_10 : Ins mX4_exchange 10 11 1 (.iconst 0) := ⟨by decide +kernel, rfl⟩
theorem iX4_exchange_11 : Ins mX4_exchange 11 14 3 (.invokevirtual 48) := ⟨by decide +kernel, rfl⟩
theorem iX4_exchange_14 : Ins mX4_exchange 14 15 1 (.ireturn) := ⟨by decide +kernel, rfl⟩
theorem iX4_exchange_15 : Ins mX4_exchange 15 16 1 (.aload_n 1) := ⟨by decide +kernel, rfl⟩
theorem iX4_exchange_16 : Ins mX4_exchange 16 17 1 (.iload_n 2) := ⟨by decide +kernel, rfl⟩
theorem iX4_exchange_17 : Ins mX4_exchange 17 18 1 (.iaload) := ⟨by decide +kernel, rfl⟩
theorem iX4_exchange_18 : Ins mX4_exchange 18 20 2 (.istore 5) := ⟨by decide +kernel, rfl⟩
theorem iX4_exchange_20 : Ins mX4_exchange 20 21 1 (.aload_n 1) := ⟨by decide +kernel, rfl⟩
theorem iX4_exchange_21 : Ins mX4_exchange 21 22 1 (.iload_n 2) := ⟨by decide +kernel, rfl⟩
theorem iX4_exchange_22 : Ins mX4_exchange 22 23 1 (.iload_n 3) := ⟨by decide +kernel, rfl⟩
theorem iX4_exchange_23 : Ins mX4_exchange 23 24 1 (.iastore) := ⟨by decide +kernel, rfl⟩
theorem iX4_exchange_24 : Ins mX4_exchange 24 26 2 (.iload 5) := ⟨by decide +kernel, rfl⟩
theorem iX4_exchange_26 : Ins mX4_exchange 26 27 1 (.ireturn) := ⟨by decide +kernel, rfl⟩
end
section
theorem iX5_finding_0 : Ins mX5_finding 0 1 1 (.aload_n 0) := ⟨by decide +kernel, rfl⟩
theorem iX5_finding_1 : Ins mX5_finding 1 4 3 (.getfield 19) := ⟨by decide +kernel, rfl⟩
theorem iX5_finding_4 : Ins mX5_finding 4 6 2 (.ldc 60) := ⟨by decide +kernel, rfl⟩
theorem iX5_finding_6 : Ins mX5_finding 6 7 1 (.iload_n 1) := ⟨by decide +kernel, rfl⟩
theorem iX5_finding_7 : Ins mX5_finding 7 8 1 (.isub) := ⟨by decide +kernel, rfl⟩
theorem iX5_finding_8 : Ins mX5_finding 8 9 1 (.iconst 1) := ⟨by decide +kernel, rfl⟩
theorem iX5_finding_9 : Ins mX5_finding 9 10 1 (.iadd) := ⟨by decide +kernel, rfl⟩
theorem iX5_finding_10 : Ins mX5_finding 10 11 1 (.dup2) := ⟨by decide +kernel, rfl⟩
theorem iX5_finding_11 : Ins mX5_finding 11 12 1 (.iaload) := ⟨by decide +kernel, rfl⟩
theorem iX5_finding_12 : Ins mX5_finding 12 13 1 (.iconst 1) := ⟨by decide +kernel, rfl⟩
theorem iX5_finding_13 : Ins mX5_finding 13 14 1 (.iadd) := ⟨by decide +kernel, rfl⟩
theorem iX5_finding_14 : Ins mX5_finding 14 15 1 (.iastore) := ⟨by decide +kernel, rfl⟩
theorem iX5_finding_15 : Ins mX5_finding 15 16 1 (.aload_n 0) := ⟨by decide +kernel, rfl⟩
theorem iX5_finding_16 : Ins mX5_finding 16 19 3 (.getfield 19) := ⟨by decide +kernel, rfl⟩
theorem iX5_finding_19 : Ins mX5_finding 19 20 1 (.iconst 0) := ⟨by decide +kernel, rfl⟩
theorem iX5_finding_20 : Ins mX5_finding 20 21 1 (.dup2) := ⟨by decide +kernel, rfl⟩
theorem iX5_finding_21 : Ins mX5_finding 21 22 1 (.iaload) := ⟨by decide +kernel, rfl⟩
theorem iX5_finding_22 : Ins mX5_finding 22 23 1 (.iconst 1) := ⟨by decide +kernel, rfl⟩
theorem iX5_finding_23 : Ins mX5_finding 23 24 1 (.iadd) := ⟨by decide +kernel, rfl⟩
theorem iX5_finding_24 : Ins mX5_finding 24 25 1 (.iastore) := ⟨by decide +kernel, rfl⟩
theorem iX5_finding_25 : Ins mX5_finding 25 26 1 (.iload_n 1) := ⟨by decide +kernel, rfl⟩
theorem iX5_finding_26 : Ins mX5_finding 26 27 1 (.ireturn) := ⟨by decide +kernel, rfl⟩
theorem iX5_within_0 : Ins mX5_within 0 1 1 (.iload_n 0) := ⟨by decide +kernel, rfl⟩
theorem iX5_within_1 : Ins mX5_within 1 2 1 (.iload_n 1) := ⟨by decide +kernel, rfl⟩
theorem iX5_within_2 : InB mX5_within 2 5 14 (.if_icmp .lt) := ⟨by decide +kernel, rfl⟩
theorem iX5_within_5 : Ins mX5_within 5 6 1 (.iload_n 0) := ⟨by decide +kernel, rfl⟩
theorem iX5_within_6 : Ins mX5_within 6 7 1 (.iload_n 2) := ⟨by decide +kernel, rfl⟩
theorem iX5_within_7 : InB mX5_within 7 10 14 (.if_icmp .gt) := ⟨by decide +kernel, rfl⟩
theorem iX5_within_10 : Ins mX5_within 10 11 1 (.iconst 1) := ⟨by decide +kernel, rfl⟩
theorem iX5_within_11 : InB mX5_within 11 14 15 .goto := ⟨by decide +kernel, rfl⟩
theorem iX5_within_14 : Ins mX5_within 14 15 1 (.iconst 0) := ⟨by decide +kernel, rfl⟩
theorem iX5_within_15 : Ins mX5_within 15 16 1 (.ireturn) := ⟨by decide +kernel, rfl⟩
theorem iX5_become_0 : Ins mX5_become 0 1 1 (.aload_n 0) := ⟨by decide +kernel, rfl⟩
theorem iX5_become_1 : Ins mX5_become 1 4 3 (.getfield 9) := ⟨by decide +kernel, rfl⟩
theorem iX5_become_4 : Ins mX5_become 4 5 1 (.iload_n 1) := ⟨by decide +kernel, rfl⟩
theorem iX5_become_5 : Ins mX5_become 5 6 1 (.iaload) := ⟨by decide +kernel, rfl⟩
theorem iX5_become_6 : Ins mX5_become 6 7 1 (.istore_n 3) := ⟨by decide +kernel, rfl⟩
theorem iX5_become_7 : Ins mX5_become 7 8 1 (.aload_n 0) := ⟨by decide +kernel, rfl⟩
theorem iX5_become_8 : Ins mX5_become 8 11 3 (.getfield 9) := ⟨by decide +kernel, rfl⟩
theorem iX5_become_11 : Ins mX5_become 11 12 1 (.iload_n 1) := ⟨by decide +kernel, rfl⟩
theorem iX5_become_12 : Ins mX5_become 12 13 1 (.iload_n 2) := ⟨by decide +kernel, rfl⟩
theorem iX5_become_13 : Ins mX5_become 13 14 1 (.iastore) := ⟨by decide +kernel, rfl⟩
theorem iX5_become_14 : Ins mX5_become 14 15 1 (.iload_n 3) := ⟨by decide +kernel, rfl⟩
theorem iX5_become_15 : Ins mX5_become 15 16 1 (.ireturn) := ⟨by decide +kernel, rfl⟩
theorem iX5_copyRow_0 : Ins mX5_copyRow 0 1 1 (.iconst 0) := ⟨by decide +kernel, rfl⟩
theorem iX5_copyRow_1 : Ins mX5_copyRow 1 2 1 (.istore_n 2) := ⟨by decide +kernel, rfl⟩
theorem iX5_copyRow_2 : Ins mX5_copyRow 2 3 1 (.iload_n 2) := ⟨by decide +kernel, rfl⟩
theorem iX5_copyRow_3 : Ins mX5_copyRow 3 5 2 (.bipush 119) := ⟨by decide +kernel, rfl⟩
theorem iX5_copyRow_5 : InB mX5_copyRow 5 8 20 (.if_icmp .ge) := ⟨by decide +kernel, rfl⟩
theorem iX5_copyRow_8 : Ins mX5_copyRow 8 9 1 (.aload_n 1) := ⟨by decide +kernel, rfl⟩
theorem iX5_copyRow_9 : Ins mX5_copyRow 9 10 1 (.iload_n 2) := ⟨by decide +kernel, rfl⟩
theorem iX5_copyRow_10 : Ins mX5_copyRow 10 11 1 (.aload_n 0) := ⟨by decide +kernel, rfl⟩
theorem iX5_copyRow_11 : Ins mX5_copyRow 11 12 1 (.iload_n 2) := ⟨by decide +kernel, rfl⟩
theorem iX5_copyRow_12 : Ins mX5_copyRow 12 13 1 (.iaload) := ⟨by decide +kernel, rfl⟩
theorem iX5_copyRow_13 : Ins mX5_copyRow 13 14 1 (.iastore) := ⟨by decide +kernel, rfl⟩
theorem iX5_copyRow_14 : Ins mX5_copyRow 14 17 3 (.iinc 2 1) := ⟨by decide +kernel, rfl⟩
theorem iX5_copyRow_17 : InB mX5_copyRow 17 20 2 .goto := ⟨by decide +kernel, rfl⟩
theorem iX5_copyRow_20 : Ins mX5_copyRow 20 21 1 (.return_) := ⟨by decide +kernel, rfl⟩
theorem iX5_putBack_0 : Ins mX5_putBack 0 1 1 (.aload_n 0) := ⟨by decide +kernel, rfl⟩
theorem iX5_putBack_1 : Ins mX5_putBack 1 4 3 (.getfield 16) := ⟨by decide +kernel, rfl⟩
theorem iX5_putBack_4 : Ins mX5_putBack 4 5 1 (.aload_n 0) := ⟨by decide +kernel, rfl⟩
theorem iX5_putBack_5 : Ins mX5_putBack 5 8 3 (.getfield 9) := ⟨by decide +kernel, rfl⟩
theorem iX5_putBack_8 : Ins mX5_putBack 8 11 3 (.invokestatic 61) := ⟨by decide +kernel, rfl⟩
theorem iX5_putBack_11 : Ins mX5_putBack 11 12 1 (.iload_n 1) := ⟨by decide +kernel, rfl⟩
theorem iX5_putBack_12 : Ins mX5_putBack 12 13 1 (.ireturn) := ⟨by decide +kernel, rfl⟩
theorem iX5_orNone_0 : Ins mX5_orNone 0 1 1 (.iload_n 1) := ⟨by decide +kernel, rfl⟩
theorem iX5_orNone_1 : InB mX5_orNone 1 4 13 (.ifCond .ge) := ⟨by decide +kernel, rfl⟩
theorem iX5_orNone_4 : Ins mX5_orNone 4 5 1 (.aload_n 0) := ⟨by decide +kernel, rfl⟩
theorem iX5_orNone_5 : Ins mX5_orNone 5 7 2 (.ldc 65) := ⟨by decide +kernel, rfl⟩
theorem iX5_orNone_7 : Ins mX5_orNone 7 10 3 (.invokevirtual 66) := ⟨by decide +kernel, rfl⟩
theorem iX5_orNone_10 : InB mX5_orNone 10 13 14 .goto := ⟨by decide +kernel, rfl⟩
theorem iX5_orNone_13 : Ins mX5_orNone 13 14 1 (.iload_n 1) := ⟨by decide +kernel, rfl⟩
theorem iX5_orNone_14 : Ins mX5_orNone 14 15 1 (.ireturn) := ⟨by decide +kernel, rfl⟩
theorem iX5_bits_0 : Ins mX5_bits 0 1 1 (.iconst 0) := ⟨by decide +kernel, rfl⟩
theorem iX5_bits_1 : Ins mX5_bits 1 2 1 (.istore_n 1) := ⟨by decide +kernel, rfl⟩
theorem iX5_bits_2 : Ins mX5_bits 2 3 1 (.iload_n 0) := ⟨by decide +kernel, rfl⟩
theorem iX5_bits_3 : Ins mX5_bits 3 4 1 (.istore_n 2) := ⟨by decide +kernel, rfl⟩
theorem iX5_bits_4 : Ins mX5_bits 4 5 1 (.iload_n 2) := ⟨by decide +kernel, rfl⟩
theorem iX5_bits_5 : InB mX5_bits 5 8 20 (.ifCond .eq) := ⟨by decide +kernel, rfl⟩
theorem iX5_bits_8 : Ins mX5_bits 8 11 3 (.iinc 1 1) := ⟨by decide +kernel, rfl⟩
theorem iX5_bits_11 : Ins mX5_bits 11 12 1 (.iload_n 2) := ⟨by decide +kernel, rfl⟩
theorem iX5_bits_12 : Ins mX5_bits 12 13 1 (.iload_n 2) := ⟨by decide +kernel, rfl⟩
theorem iX5_bits_13 : Ins mX5_bits 13 14 1 (.iconst 1) := ⟨by decide +kernel, rfl⟩
theorem iX5_bits_14 : Ins mX5_bits 14 15 1 (.isub) := ⟨by decide +kernel, rfl⟩
theorem iX5_bits_15 : Ins mX5_bits 15 16 1 (.iand) := ⟨by decide +kernel, rfl⟩
theorem iX5_bits_16 : Ins mX5_bits 16 17 1 (.istore_n 2) := ⟨by decide +kernel, rfl⟩
theorem iX5_bits_17 : InB mX5_bits 17 20 4 .goto := ⟨by decide +kernel, rfl⟩
theorem iX5_bits_20 : Ins mX5_bits 20 21 1 (.iload_n 1) := ⟨by decide +kernel, rfl⟩
theorem iX5_bits_21 : Ins mX5_bits 21 22 1 (.ireturn) := ⟨by decide +kernel, rfl⟩
theorem iX5_isOne_0 : Ins mX5_isOne 0 1 1 (.iload_n 0) := ⟨by decide +kernel, rfl⟩
theorem iX5_isOne_1 : Ins mX5_isOne 1 2 1 (.iconst 0) := ⟨by decide +kernel, rfl⟩
theorem iX5_isOne_2 : Ins mX5_isOne 2 4 2 (.bipush 7) := ⟨by decide +kernel, rfl⟩
theorem iX5_isOne_4 : Ins mX5_isOne 4 7 3 (.invokestatic 70) := ⟨by decide +kernel, rfl⟩
theorem iX5_isOne_7 : Ins mX5_isOne 7 8 1 (.ireturn) := ⟨by decide +kernel, rfl⟩
theorem iX5_isNine_0 : Ins mX5_isNine 0 1 1 (.iload_n 0) := ⟨by decide +kernel, rfl⟩
theorem iX5_isNine_1 : Ins mX5_isNine 1 2 1 (.iconst 0) := ⟨by decide +kernel, rfl⟩
theorem iX5_isNine_2 : Ins mX5_isNine 2 4 2 (.bipush 9) := ⟨by decide +kernel, rfl⟩
theorem iX5_isNine_4 : Ins mX5_isNine 4 7 3 (.invokestatic 70) := ⟨by decide +kernel, rfl⟩
theorem iX5_isNine_7 : Ins mX5_isNine 7 8 1 (.ireturn) := ⟨by decide +kernel, rfl⟩
theorem iX5_isPlace_0 : Ins mX5_isPlace 0 1 1 (.iload_n 0) := ⟨by decide +kernel, rfl⟩
theorem iX5_isPlace_1 : Ins mX5_isPlace 1 2 1 (.iconst 0) := ⟨by decide +kernel, rfl⟩
theorem iX5_isPlace_2 : Ins mX5_isPlace 2 3 1 (.iconst 5) := ⟨by decide +kernel, rfl⟩
theorem iX5_isPlace_3 : Ins mX5_isPlace 3 6 3 (.invokestatic 70) := ⟨by decide +kernel, rfl⟩
theorem iX5_isPlace_6 : Ins mX5_isPlace 6 7 1 (.ireturn) := ⟨by decide +kernel, rfl⟩
theorem iX5_list_0 : Ins mX5_list 0 1 1 (.iload_n 1) := ⟨by decide +kernel, rfl⟩
theorem iX5_list_1 : Ins mX5_list 1 4 3 (.invokestatic 74) := ⟨by decide +kernel, rfl⟩
theorem iX5_list_4 : InB mX5_list 4 7 37 (.ifCond .eq) := ⟨by decide +kernel, rfl⟩
theorem iX5_list_7 : Ins mX5_list 7 8 1 (.iload_n 2) := ⟨by decide +kernel, rfl⟩
theorem iX5_list_8 : Ins mX5_list 8 11 3 (.invokestatic 78) := ⟨by decide +kernel, rfl⟩
theorem iX5_list_11 : InB mX5_list 11 14 37 (.ifCond .eq) := ⟨by decide +kernel, rfl⟩
theorem iX5_list_14 : Ins mX5_list 14 15 1 (.iload_n 3) := ⟨by decide +kernel, rfl⟩
theorem iX5_list_15 : Ins mX5_list 15 18 3 (.invokestatic 78) := ⟨by decide +kernel, rfl⟩
theorem iX5_list_18 : InB mX5_list 18 21 37 (.ifCond .eq) := ⟨by decide +kernel, rfl⟩
theorem iX5_list_21 : Ins mX5_list 21 22 1 (.aload_n 0) := ⟨by decide +kernel, rfl⟩
theorem iX5_list_22 : Ins mX5_list 22 23 1 (.iconst 5) := ⟨by decide +kernel, rfl⟩
theorem iX5_list_23 : Ins mX5_list 23 24 1 (.iload_n 1) := ⟨by decide +kernel, rfl⟩
theorem iX5_list_24 : Ins mX5_list 24 25 1 (.iadd) := ⟨by decide +kernel, rfl⟩
theorem iX5_list_25 : Ins mX5_list 25 27 2 (.bipush 10) := ⟨by decide +kernel, rfl⟩
theorem iX5_list_27 : Ins mX5_list 27 28 1 (.iload_n 2) := ⟨by decide +kernel, rfl⟩
theorem iX5_list_28 : Ins mX5_list 28 29 1 (.imul) := ⟨by decide +kernel, rfl⟩
theorem iX5_list_29 : Ins mX5_list 29 30 1 (.iload_n 3) := ⟨by decide +kernel, rfl⟩
theorem iX5_list_30 : Ins mX5_list 30 31 1 (.iadd) := ⟨by decide +kernel, rfl⟩
theorem iX5_list_31 : Ins mX5_list 31 34 3 (.invokevirtual 81) := ⟨by decide +kernel, rfl⟩
theorem iX5_list_34 : InB mX5_list 34 37 43 .goto := ⟨by decide +kernel, rfl⟩
theorem iX5_list_37 : Ins mX5_list 37 38 1 (.aload_n 0) := ⟨by decide +kernel, rfl⟩
theorem iX5_list_38 : Ins mX5_list 38 40 2 (.ldc 60) := ⟨by decide +kernel, rfl⟩
theorem iX5_list_40 : Ins mX5_list 40 43 3 (.invokevirtual 66) := ⟨by decide +kernel, rfl⟩
theorem iX5_list_43 : Ins mX5_list 43 44 1 (.ireturn) := ⟨by decide +kernel, rfl⟩
theorem iX5_listed_0 : Ins mX5_listed 0 1 1 (.iload_n 1) := ⟨by decide +kernel, rfl⟩
theorem iX5_listed_1 : Ins mX5_listed 1 4 3 (.invokestatic 74) := ⟨by decide +kernel, rfl⟩
theorem iX5_listed_4 : InB mX5_listed 4 7 18 (.ifCond .eq) := ⟨by decide +kernel, rfl⟩
theorem iX5_listed_7 : Ins mX5_listed 7 8 1 (.aload_n 0) := ⟨by decide +kernel, rfl⟩
theorem iX5_listed_8 : Ins mX5_listed 8 11 3 (.getfield 9) := ⟨by decide +kernel, rfl⟩
theorem iX5_listed_11 : Ins mX5_listed 11 12 1 (.iconst 5) := ⟨by decide +kernel, rfl⟩
theorem iX5_listed_12 : Ins mX5_listed 12 13 1 (.iload_n 1) := ⟨by decide +kernel, rfl⟩
theorem iX5_listed_13 : Ins mX5_listed 13 14 1 (.iadd) := ⟨by decide +kernel, rfl⟩
theorem iX5_listed_14 : Ins mX5_listed 14 15 1 (.iaload) := ⟨by decide +kernel, rfl⟩
theorem iX5_listed_15 : InB mX5_listed 15 18 24 .goto := ⟨by decide +kernel, rfl⟩
theorem iX5_listed_18 : Ins mX5_listed 18 19 1 (.aload_n 0) := ⟨by decide +kernel, rfl⟩
theorem iX5_listed_19 : Ins mX5_listed 19 21 2 (.ldc 60) := ⟨by decide +kernel, rfl⟩
theorem iX5_listed_21 : Ins mX5_listed 21 24 3 (.invokevirtual 66) := ⟨by decide +kernel, rfl⟩
theorem iX5_listed_24 : Ins mX5_listed 24 25 1 (.ireturn) := ⟨by decide +kernel, rfl⟩
theorem iX5_placeNow_0 : Ins mX5_placeNow 0 1 1 (.iconst 5) := ⟨by decide +kernel, rfl⟩
theorem iX5_placeNow_1 : Ins mX5_placeNow 1 2 1 (.aload_n 0) := ⟨by decide +kernel, rfl⟩
theorem iX5_placeNow_2 : Ins mX5_placeNow 2 5 3 (.getfield 9) := ⟨by decide +kernel, rfl⟩
theorem iX5_placeNow_5 : Ins mX5_placeNow 5 6 1 (.iconst 0) := ⟨by decide +kernel, rfl⟩
theorem iX5_placeNow_6 : Ins mX5_placeNow 6 7 1 (.iaload) := ⟨by decide +kernel, rfl⟩
theorem iX5_placeNow_7 : Ins mX5_placeNow 7 9 2 (.bipush 6) := ⟨by decide +kernel, rfl⟩
theorem iX5_placeNow_9 : Ins mX5_placeNow 9 10 1 (.irem) := ⟨by decide +kernel, rfl⟩
theorem iX5_placeNow_10 : Ins mX5_placeNow 10 11 1 (.iadd) := ⟨by decide +kernel, rfl⟩
theorem iX5_placeNow_11 : Ins mX5_placeNow 11 12 1 (.ireturn) := ⟨by decide +kernel, rfl⟩
theorem iX5_personAt_0 : Ins mX5_personAt 0 2 2 (.bipush 21) := ⟨by decide +kernel, rfl⟩
theorem iX5_personAt_2 : Ins mX5_personAt 2 3 1 (.iconst 4) := ⟨by decide +kernel, rfl⟩
theorem iX5_personAt_3 : Ins mX5_personAt 3 4 1 (.iload_n 0) := ⟨by decide +kernel, rfl⟩
theorem iX5_personAt_4 : Ins mX5_personAt 4 5 1 (.imul) := ⟨by decide +kernel, rfl⟩
theorem iX5_personAt_5 : Ins mX5_personAt 5 6 1 (.iadd) := ⟨by decide +kernel, rfl⟩
theorem iX5_personAt_6 : Ins mX5_personAt 6 7 1 (.iload_n 1) := ⟨by decide +kernel, rfl⟩
theorem iX5_personAt_7 : Ins mX5_personAt 7 8 1 (.iadd) := ⟨by decide +kernel, rfl⟩
theorem iX5_personAt_8 : Ins mX5_personAt 8 9 1 (.ireturn) := ⟨by decide +kernel, rfl⟩
theorem iX5_personIs_0 : Ins mX5_personIs 0 1 1 (.aload_n 0) := ⟨by decide +kernel, rfl⟩
theorem iX5_personIs_1 : Ins mX5_personIs 1 4 3 (.getfield 9) := ⟨by decide +kernel, rfl⟩
theorem iX5_personIs_4 : Ins mX5_personIs 4 5 1 (.iload_n 1) := ⟨by decide +kernel, rfl⟩
theorem iX5_personIs_5 : Ins mX5_personIs 5 6 1 (.iload_n 2) := ⟨by decide +kernel, rfl⟩
theorem iX5_personIs_6 : Ins mX5_personIs 6 9 3 (.invokestatic 85) := ⟨by decide +kernel, rfl⟩
theorem iX5_personIs_9 : Ins mX5_personIs 9 10 1 (.iaload) := ⟨by decide +kernel, rfl⟩
theorem iX5_personIs_10 : Ins mX5_personIs 10 11 1 (.ireturn) := ⟨by decide +kernel, rfl⟩
theorem iX5_isPerson_0 : Ins mX5_isPerson 0 1 1 (.iload_n 1) := ⟨by decide +kernel, rfl⟩
theorem iX5_isPerson_1 : Ins mX5_isPerson 1 2 1 (.iconst 0) := ⟨by decide +kernel, rfl⟩
theorem iX5_isPerson_2 : Ins mX5_isPerson 2 3 1 (.aload_n 0) := ⟨by decide +kernel, rfl⟩
theorem iX5_isPerson_3 : Ins mX5_isPerson 3 6 3 (.getfield 9) := ⟨by decide +kernel, rfl⟩
theorem iX5_isPerson_6 : Ins mX5_isPerson 6 7 1 (.iconst 1) := ⟨by decide +kernel, rfl⟩
theorem iX5_isPerson_7 : Ins mX5_isPerson 7 8 1 (.iaload) := ⟨by decide +kernel, rfl⟩
theorem iX5_isPerson_8 : Ins mX5_isPerson 8 9 1 (.iconst 1) := ⟨by decide +kernel, rfl⟩
theorem iX5_isPerson_9 : Ins mX5_isPerson 9 10 1 (.isub) := ⟨by decide +kernel, rfl⟩
theorem iX5_isPerson_10 : Ins mX5_isPerson 10 13 3 (.invokestatic 70) := ⟨by decide +kernel, rfl⟩
theorem iX5_isPerson_13 : Ins mX5_isPerson 13 14 1 (.ireturn) := ⟨by decide +kernel, rfl⟩
theorem iX5_sayingAt_0 : Ins mX5_sayingAt 0 2 2 (.bipush 53) := ⟨by decide +kernel, rfl⟩
theorem iX5_sayingAt_2 : Ins mX5_sayingAt 2 4 2 (.bipush 11) := ⟨by decide +kernel, rfl⟩
theorem iX5_sayingAt_4 : Ins mX5_sayingAt 4 5 1 (.iload_n 0) := ⟨by decide +kernel, rfl⟩
theorem iX5_sayingAt_5 : Ins mX5_sayingAt 5 6 1 (.imul) := ⟨by decide +kernel, rfl⟩
theorem iX5_sayingAt_6 : Ins mX5_sayingAt 6 7 1 (.iadd) := ⟨by decide +kernel, rfl⟩
theorem iX5_sayingAt_7 : Ins mX5_sayingAt 7 8 1 (.iload_n 1) := ⟨by decide +kernel, rfl⟩
theorem iX5_sayingAt_8 : Ins mX5_sayingAt 8 9 1 (.iadd) := ⟨by decide +kernel, rfl⟩
theorem iX5_sayingAt_9 : Ins mX5_sayingAt 9 10 1 (.ireturn) := ⟨by decide +kernel, rfl⟩
theorem iX5_sayingIs_0 : Ins mX5_sayingIs 0 1 1 (.aload_n 0) := ⟨by decide +kernel, rfl⟩
theorem iX5_sayingIs_1 : Ins mX5_sayingIs 1 4 3 (.getfield 9) := ⟨by decide +kernel, rfl⟩
theorem iX5_sayingIs_4 : Ins mX5_sayingIs 4 5 1 (.iload_n 1) := ⟨by decide +kernel, rfl⟩
theorem iX5_sayingIs_5 : Ins mX5_sayingIs 5 6 1 (.iload_n 2) := ⟨by decide +kernel, rfl⟩
theorem iX5_sayingIs_6 : Ins mX5_sayingIs 6 9 3 (.invokestatic 88) := ⟨by decide +kernel, rfl⟩
theorem iX5_sayingIs_9 : Ins mX5_sayingIs 9 10 1 (.iaload) := ⟨by decide +kernel, rfl⟩
theorem iX5_sayingIs_10 : Ins mX5_sayingIs 10 11 1 (.ireturn) := ⟨by decide +kernel, rfl⟩
theorem iX5_isSaying_0 : Ins mX5_isSaying 0 1 1 (.iload_n 1) := ⟨by decide +kernel, rfl⟩
theorem iX5_isSaying_1 : Ins mX5_isSaying 1 2 1 (.iconst 0) := ⟨by decide +kernel, rfl⟩
theorem iX5_isSaying_2 : Ins mX5_isSaying 2 3 1 (.aload_n 0) := ⟨by decide +kernel, rfl⟩
theorem iX5_isSaying_3 : Ins mX5_isSaying 3 6 3 (.getfield 9) := ⟨by decide +kernel, rfl⟩
theorem iX5_isSaying_6 : Ins mX5_isSaying 6 7 1 (.iconst 3) := ⟨by decide +kernel, rfl⟩
theorem iX5_isSaying_7 : Ins mX5_isSaying 7 8 1 (.iaload) := ⟨by decide +kernel, rfl⟩
theorem iX5_isSaying_8 : Ins mX5_isSaying 8 9 1 (.iconst 1) := ⟨by decide +kernel, rfl⟩
theorem iX5_isSaying_9 : Ins mX5_isSaying 9 10 1 (.isub) := ⟨by decide +kernel, rfl⟩
theorem iX5_isSaying_10 : Ins mX5_isSaying 10 13 3 (.invokestatic 70) := ⟨by decide +kernel, rfl⟩
theorem iX5_isSaying_13 : Ins mX5_isSaying 13 14 1 (.ireturn) := ⟨by decide +kernel, rfl⟩
theorem iX5_isKind_0 : Ins mX5_isKind 0 1 1 (.iload_n 0) := ⟨by decide +kernel, rfl⟩
theorem iX5_isKind_1 : Ins mX5_isKind 1 2 1 (.iconst 0) := ⟨by decide +kernel, rfl⟩
theorem iX5_isKind_2 : Ins mX5_isKind 2 4 2 (.bipush 6) := ⟨by decide +kernel, rfl⟩
theorem iX5_isKind_4 : Ins mX5_isKind 4 7 3 (.invokestatic 70) := ⟨by decide +kernel, rfl⟩
theorem iX5_isKind_7 : Ins mX5_isKind 7 8 1 (.ireturn) := ⟨by decide +kernel, rfl⟩
theorem iX5_comes_0 : Ins mX5_comes 0 1 1 (.aload_n 0) := ⟨by decide +kernel, rfl⟩
theorem iX5_comes_1 : Ins mX5_comes 1 4 3 (.getfield 9) := ⟨by decide +kernel, rfl⟩
theorem iX5_comes_4 : Ins mX5_comes 4 5 1 (.iconst 1) := ⟨by decide +kernel, rfl⟩
theorem iX5_comes_5 : Ins mX5_comes 5 6 1 (.iaload) := ⟨by decide +kernel, rfl⟩
theorem iX5_comes_6 : Ins mX5_comes 6 7 1 (.istore_n 3) := ⟨by decide +kernel, rfl⟩
theorem iX5_comes_7 : Ins mX5_comes 7 8 1 (.aload_n 0) := ⟨by decide +kernel, rfl⟩
theorem iX5_comes_8 : Ins mX5_comes 8 11 3 (.getfield 9) := ⟨by decide +kernel, rfl⟩
theorem iX5_comes_11 : Ins mX5_comes 11 12 1 (.iload_n 3) := ⟨by decide +kernel, rfl⟩
theorem iX5_comes_12 : Ins mX5_comes 12 13 1 (.iconst 0) := ⟨by decide +kernel, rfl⟩
theorem iX5_comes_13 : Ins mX5_comes 13 16 3 (.invokestatic 85) := ⟨by decide +kernel, rfl⟩
theorem iX5_comes_16 : Ins mX5_comes 16 17 1 (.iload_n 1) := ⟨by decide +kernel, rfl⟩
theorem iX5_comes_17 : Ins mX5_comes 17 18 1 (.iastore) := ⟨by decide +kernel, rfl⟩
theorem iX5_comes_18 : Ins mX5_comes 18 19 1 (.aload_n 0) := ⟨by decide +kernel, rfl⟩
theorem iX5_comes_19 : Ins mX5_comes 19 22 3 (.getfield 9) := ⟨by decide +kernel, rfl⟩
theorem iX5_comes_22 : Ins mX5_comes 22 23 1 (.iload_n 3) := ⟨by decide +kernel, rfl⟩
theorem iX5_comes_23 : Ins mX5_comes 23 24 1 (.iconst 1) := ⟨by decide +kernel, rfl⟩
theorem iX5_comes_24 : Ins mX5_comes 24 27 3 (.invokestatic 85) := ⟨by decide +kernel, rfl⟩
theorem iX5_comes_27 : Ins mX5_comes 27 28 1 (.iload_n 2) := ⟨by decide +kernel, rfl⟩
theorem iX5_comes_28 : Ins mX5_comes 28 29 1 (.iastore) := ⟨by decide +kernel, rfl⟩
theorem iX5_comes_29 : Ins mX5_comes 29 30 1 (.aload_n 0) := ⟨by decide +kernel, rfl⟩
theorem iX5_comes_30 : Ins mX5_comes 30 33 3 (.getfield 9) := ⟨by decide +kernel, rfl⟩
theorem iX5_comes_33 : Ins mX5_comes 33 34 1 (.iload_n 3) := ⟨by decide +kernel, rfl⟩
theorem iX5_comes_34 : Ins mX5_comes 34 35 1 (.iconst 2) := ⟨by decide +kernel, rfl⟩
theorem iX5_comes_35 : Ins mX5_comes 35 38 3 (.invokestatic 85) := ⟨by decide +kernel, rfl⟩
theorem iX5_comes_38 : Ins mX5_comes 38 39 1 (.iconst 0) := ⟨by decide +kernel, rfl⟩
theorem iX5_comes_39 : Ins mX5_comes 39 40 1 (.iastore) := ⟨by decide +kernel, rfl⟩
theorem iX5_comes_40 : Ins mX5_comes 40 41 1 (.aload_n 0) := ⟨by decide +kernel, rfl⟩
theorem iX5_comes_41 : Ins mX5_comes 41 44 3 (.getfield 9) := ⟨by decide +kernel, rfl⟩
theorem iX5_comes_44 : Ins mX5_comes 44 45 1 (.iload_n 3) := ⟨by decide +kernel, rfl⟩
theorem iX5_comes_45 : Ins mX5_comes 45 46 1 (.iconst 3) := ⟨by decide +kernel, rfl⟩
theorem iX5_comes_46 : Ins mX5_comes 46 49 3 (.invokestatic 85) := ⟨by decide +kernel, rfl⟩
theorem iX5_comes_49 : Ins mX5_comes 49 50 1 (.iconst 0) := ⟨by decide +kernel, rfl⟩
theorem iX5_comes_50 : Ins mX5_comes 50 51 1 (.iastore) := ⟨by decide +kernel, rfl⟩
theorem iX5_comes_51 : Ins mX5_comes 51 52 1 (.aload_n 0) := ⟨by decide +kernel, rfl⟩
theorem iX5_comes_52 : Ins mX5_comes 52 55 3 (.getfield 9) := ⟨by decide +kernel, rfl⟩
theorem iX5_comes_55 : Ins mX5_comes 55 56 1 (.iconst 1) := ⟨by decide +kernel, rfl⟩
theorem iX5_comes_56 : Ins mX5_comes 56 57 1 (.dup2) := ⟨by decide +kernel, rfl⟩
theorem iX5_comes_57 : Ins mX5_comes 57 58 1 (.iaload) := ⟨by decide +kernel, rfl⟩
theorem iX5_comes_58 : Ins mX5_comes 58 59 1 (.iconst 1) := ⟨by decide +kernel, rfl⟩
theorem iX5_comes_59 : Ins mX5_comes 59 60 1 (.iadd) := ⟨by decide +kernel, rfl⟩
theorem iX5_comes_60 : Ins mX5_comes 60 61 1 (.iastore) := ⟨by decide +kernel, rfl⟩
theorem iX5_comes_61 : Ins mX5_comes 61 62 1 (.iload_n 3) := ⟨by decide +kernel, rfl⟩
theorem iX5_comes_62 : Ins mX5_comes 62 63 1 (.ireturn) := ⟨by decide +kernel, rfl⟩
theorem iX5_person_0 : Ins mX5_person 0 1 1 (.iload_n 1) := ⟨by decide +kernel, rfl⟩
theorem iX5_person_1 : Ins mX5_person 1 4 3 (.invokestatic 91) := ⟨by decide +kernel, rfl⟩
theorem iX5_person_4 : InB mX5_person 4 7 14 (.ifCond .eq) := ⟨by decide +kernel, rfl⟩
theorem iX5_person_7 : Ins mX5_person 7 8 1 (.iload_n 2) := ⟨by decide +kernel, rfl⟩
theorem iX5_person_8 : Ins mX5_person 8 11 3 (.invokestatic 94) := ⟨by decide +kernel, rfl⟩
theorem iX5_person_11 : InB mX5_person 11 14 21 (.ifCond .ne) := ⟨by decide +kernel, rfl⟩
theorem iX5_person_14 : Ins mX5_person 14 15 1 (.aload_n 0) := ⟨by decide +kernel, rfl⟩
theorem iX5_person_15 : Ins mX5_person 15 17 2 (.ldc 60) := ⟨by decide +kernel, rfl⟩
theorem iX5_person_17 : Ins mX5_person 17 20 3 (.invokevirtual 66) := ⟨by decide +kernel, rfl⟩
theorem iX5_person_20 : Ins mX5_person 20 21 1 (.ireturn) := ⟨by decide +kernel, rfl⟩
theorem iX5_person_21 : Ins mX5_person 21 22 1 (.aload_n 0) := ⟨by decide +kernel, rfl⟩
theorem iX5_person_22 : Ins mX5_person 22 25 3 (.getfield 9) := ⟨by decide +kernel, rfl⟩
theorem iX5_person_25 : Ins mX5_person 25 26 1 (.iconst 1) := ⟨by decide +kernel, rfl⟩
theorem iX5_person_26 : Ins mX5_person 26 27 1 (.iaload) := ⟨by decide +kernel, rfl⟩
theorem iX5_person_27 : Ins mX5_person 27 29 2 (.bipush 8) := ⟨by decide +kernel, rfl⟩
theorem iX5_person_29 : InB mX5_person 29 32 41 (.if_icmp .ne) := ⟨by decide +kernel, rfl⟩
theorem iX5_person_32 : Ins mX5_person 32 33 1 (.aload_n 0) := ⟨by decide +kernel, rfl⟩
theorem iX5_person_33 : Ins mX5_person 33 35 2 (.ldc 97) := ⟨by decide +kernel, rfl⟩
theorem iX5_person_35 : Ins mX5_person 35 38 3 (.invokevirtual 66) := ⟨by decide +kernel, rfl⟩
theorem iX5_person_38 : InB mX5_person 38 41 47 .goto := ⟨by decide +kernel, rfl⟩
theorem iX5_person_41 : Ins mX5_person 41 42 1 (.aload_n 0) := ⟨by decide +kernel, rfl⟩
theorem iX5_person_42 : Ins mX5_person 42 43 1 (.iload_n 1) := ⟨by decide +kernel, rfl⟩
theorem iX5_person_43 : Ins mX5_person 43 44 1 (.iload_n 2) := ⟨by decide +kernel, rfl⟩
theorem iX5_person_44 : Ins mX5_person 44 47 3 (.invokevirtual 98) := ⟨by decide +kernel, rfl⟩
theorem iX5_person_47 : Ins mX5_person 47 48 1 (.ireturn) := ⟨by decide +kernel, rfl⟩
theorem iX5_isBegun_0 : Ins mX5_isBegun 0 1 1 (.aload_n 0) := ⟨by decide +kernel, rfl⟩
theorem iX5_isBegun_1 : Ins mX5_isBegun 1 4 3 (.getfield 9) := ⟨by decide +kernel, rfl⟩
theorem iX5_isBegun_4 : Ins mX5_isBegun 4 5 1 (.iload_n 1) := ⟨by decide +kernel, rfl⟩
theorem iX5_isBegun_5 : Ins mX5_isBegun 5 6 1 (.iconst 2) := ⟨by decide +kernel, rfl⟩
theorem iX5_isBegun_6 : Ins mX5_isBegun 6 9 3 (.invokestatic 88) := ⟨by decide +kernel, rfl⟩
theorem iX5_isBegun_9 : Ins mX5_isBegun 9 10 1 (.iconst 1) := ⟨by decide +kernel, rfl⟩
theorem iX5_isBegun_10 : Ins mX5_isBegun 10 11 1 (.iload_n 2) := ⟨by decide +kernel, rfl⟩
theorem iX5_isBegun_11 : Ins mX5_isBegun 11 12 1 (.ishl) := ⟨by decide +kernel, rfl⟩
theorem iX5_isBegun_12 : Ins mX5_isBegun 12 13 1 (.iastore) := ⟨by decide +kernel, rfl⟩
theorem iX5_isBegun_13 : Ins mX5_isBegun 13 14 1 (.aload_n 0) := ⟨by decide +kernel, rfl⟩
theorem iX5_isBegun_14 : Ins mX5_isBegun 14 17 3 (.getfield 9) := ⟨by decide +kernel, rfl⟩
theorem iX5_isBegun_17 : Ins mX5_isBegun 17 18 1 (.iload_n 1) := ⟨by decide +kernel, rfl⟩
theorem iX5_isBegun_18 : Ins mX5_isBegun 18 19 1 (.iconst 3) := ⟨by decide +kernel, rfl⟩
theorem iX5_isBegun_19 : Ins mX5_isBegun 19 20 1 (.iload_n 2) := ⟨by decide +kernel, rfl⟩
theorem iX5_isBegun_20 : Ins mX5_isBegun 20 21 1 (.iadd) := ⟨by decide +kernel, rfl⟩
theorem iX5_isBegun_21 : Ins mX5_isBegun 21 24 3 (.invokestatic 88) := ⟨by decide +kernel, rfl⟩
theorem iX5_isBegun_24 : Ins mX5_isBegun 24 25 1 (.iconst (-1)) := ⟨by decide +kernel, rfl⟩
theorem iX5_isBegun_25 : Ins mX5_isBegun 25 26 1 (.iastore) := ⟨by decide +kernel, rfl⟩
theorem iX5_isBegun_26 : Ins mX5_isBegun 26 27 1 (.return_) := ⟨by decide +kernel, rfl⟩
theorem iX5_isSaid_0 : Ins mX5_isSaid 0 1 1 (.aload_n 0) := ⟨by decide +kernel, rfl⟩
theorem iX5_isSaid_1 : Ins mX5_isSaid 1 4 3 (.getfield 9) := ⟨by decide +kernel, rfl⟩
theorem iX5_isSaid_4 : Ins mX5_isSaid 4 5 1 (.iconst 3) := ⟨by decide +kernel, rfl⟩
theorem iX5_isSaid_5 : Ins mX5_isSaid 5 6 1 (.iaload) := ⟨by decide +kernel, rfl⟩
theorem iX5_isSaid_6 : Ins mX5_isSaid 6 8 2 (.istore 4) := ⟨by decide +kernel, rfl⟩
theorem iX5_isSaid_8 : Ins mX5_isSaid 8 9 1 (.iconst 0) := ⟨by decide +kernel, rfl⟩
theorem iX5_isSaid_9 : Ins mX5_isSaid 9 11 2 (.istore 5) := ⟨by decide +kernel, rfl⟩
theorem iX5_isSaid_11 : Ins mX5_isSaid 11 13 2 (.iload 5) := ⟨by decide +kernel, rfl⟩
theorem iX5_isSaid_13 : Ins mX5_isSaid 13 15 2 (.bipush 11) := ⟨by decide +kernel, rfl⟩
theorem iX5_isSaid_15 : InB mX5_isSaid 15 18 37 (.if_icmp .ge) := ⟨by decide +kernel, rfl⟩
theorem iX5_isSaid_18 : Ins mX5_isSaid 18 19 1 (.aload_n 0) := ⟨by decide +kernel, rfl⟩
theorem iX5_isSaid_19 : Ins mX5_isSaid 19 22 3 (.getfield 9) := ⟨by decide +kernel, rfl⟩
theorem iX5_isSaid_22 : Ins mX5_isSaid 22 24 2 (.iload 4) := ⟨by decide +kernel, rfl⟩
theorem iX5_isSaid_24 : Ins mX5_isSaid 24 26 2 (.iload 5) := ⟨by decide +kernel, rfl⟩
theorem iX5_isSaid_26 : Ins mX5_isSaid 26 29 3 (.invokestatic 88) := ⟨by decide +kernel, rfl⟩
theorem iX5_isSaid_29 : Ins mX5_isSaid 29 30 1 (.iconst 0) := ⟨by decide +kernel, rfl⟩
theorem iX5_isSaid_30 : Ins mX5_isSaid 30 31 1 (.iastore) := ⟨by decide +kernel, rfl⟩
theorem iX5_isSaid_31 : Ins mX5_isSaid 31 34 3 (.iinc 5 1) := ⟨by decide +kernel, rfl⟩
theorem iX5_isSaid_34 : InB mX5_isSaid 34 37 11 .goto := ⟨by decide +kernel, rfl⟩
theorem iX5_isSaid_37 : Ins mX5_isSaid 37 38 1 (.aload_n 0) := ⟨by decide +kernel, rfl⟩
theorem iX5_isSaid_38 : Ins mX5_isSaid 38 41 3 (.getfield 9) := ⟨by decide +kernel, rfl⟩
theorem iX5_isSaid_41 : Ins mX5_isSaid 41 43 2 (.iload 4) := ⟨by decide +kernel, rfl⟩
theorem iX5_isSaid_43 : Ins mX5_isSaid 43 44 1 (.iconst 0) := ⟨by decide +kernel, rfl⟩
theorem iX5_isSaid_44 : Ins mX5_isSaid 44 47 3 (.invokestatic 88) := ⟨by decide +kernel, rfl⟩
theorem iX5_isSaid_47 : Ins mX5_isSaid 47 48 1 (.iload_n 2) := ⟨by decide +kernel, rfl⟩
theorem iX5_isSaid_48 : Ins mX5_isSaid 48 49 1 (.iastore) := ⟨by decide +kernel, rfl⟩
theorem iX5_isSaid_49 : Ins mX5_isSaid 49 50 1 (.aload_n 0) := ⟨by decide +kernel, rfl⟩
theorem iX5_isSaid_50 : Ins mX5_isSaid 50 53 3 (.getfield 9) := ⟨by decide +kernel, rfl⟩
theorem iX5_isSaid_53 : Ins mX5_isSaid 53 55 2 (.iload 4) := ⟨by decide +kernel, rfl⟩
theorem iX5_isSaid_55 : Ins mX5_isSaid 55 56 1 (.iconst 1) := ⟨by decide +kernel, rfl⟩
theorem iX5_isSaid_56 : Ins mX5_isSaid 56 59 3 (.invokestatic 88) := ⟨by decide +kernel, rfl⟩
theorem iX5_isSaid_59 : Ins mX5_isSaid 59 60 1 (.iload_n 3) := ⟨by decide +kernel, rfl⟩
theorem iX5_isSaid_60 : Ins mX5_isSaid 60 61 1 (.iastore) := ⟨by decide +kernel, rfl⟩
theorem iX5_isSaid_61 : Ins mX5_isSaid 61 62 1 (.aload_n 0) := ⟨by decide +kernel, rfl⟩
theorem iX5_isSaid_62 : Ins mX5_isSaid 62 64 2 (.iload 4) := ⟨by decide +kernel, rfl⟩
theorem iX5_isSaid_64 : Ins mX5_isSaid 64 65 1 (.iload_n 1) := ⟨by decide +kernel, rfl⟩
theorem iX5_isSaid_65 : Ins mX5_isSaid 65 68 3 (.invokevirtual 101) := ⟨by decide +kernel, rfl⟩
theorem iX5_isSaid_68 : Ins mX5_isSaid 68 69 1 (.aload_n 0) := ⟨by decide +kernel, rfl⟩
theorem iX5_isSaid_69 : Ins mX5_isSaid 69 72 3 (.getfield 9) := ⟨by decide +kernel, rfl⟩
theorem iX5_isSaid_72 : Ins mX5_isSaid 72 73 1 (.iconst 3) := ⟨by decide +kernel, rfl⟩
theorem iX5_isSaid_73 : Ins mX5_isSaid 73 74 1 (.dup2) := ⟨by decide +kernel, rfl⟩
theorem iX5_isSaid_74 : Ins mX5_isSaid 74 75 1 (.iaload) := ⟨by decide +kernel, rfl⟩
theorem iX5_isSaid_75 : Ins mX5_isSaid 75 76 1 (.iconst 1) := ⟨by decide +kernel, rfl⟩
theorem iX5_isSaid_76 : Ins mX5_isSaid 76 77 1 (.iadd) := ⟨by decide +kernel, rfl⟩
theorem iX5_isSaid_77 : Ins mX5_isSaid 77 78 1 (.iastore) := ⟨by decide +kernel, rfl⟩
theorem iX5_isSaid_78 : Ins mX5_isSaid 78 80 2 (.iload 4) := ⟨by decide +kernel, rfl⟩
theorem iX5_isSaid_80 : Ins mX5_isSaid 80 81 1 (.ireturn) := ⟨by decide +kernel, rfl⟩
theorem iX5_saying_0 : Ins mX5_saying 0 1 1 (.aload_n 0) := ⟨by decide +kernel, rfl⟩
theorem iX5_saying_1 : Ins mX5_saying 1 2 1 (.iload_n 1) := ⟨by decide +kernel, rfl⟩
theorem iX5_saying_2 : Ins mX5_saying 2 5 3 (.invokevirtual 105) := ⟨by decide +kernel, rfl⟩
theorem iX5_saying_5 : InB mX5_saying 5 8 22 (.ifCond .eq) := ⟨by decide +kernel, rfl⟩
theorem iX5_saying_8 : Ins mX5_saying 8 9 1 (.iload_n 2) := ⟨by decide +kernel, rfl⟩
theorem iX5_saying_9 : Ins mX5_saying 9 12 3 (.invokestatic 78) := ⟨by decide +kernel, rfl⟩
theorem iX5_saying_12 : InB mX5_saying 12 15 22 (.ifCond .eq) := ⟨by decide +kernel, rfl⟩
theorem iX5_saying_15 : Ins mX5_saying 15 16 1 (.iload_n 3) := ⟨by decide +kernel, rfl⟩
theorem iX5_saying_16 : Ins mX5_saying 16 19 3 (.invokestatic 94) := ⟨by decide +kernel, rfl⟩
theorem iX5_saying_19 : InB mX5_saying 19 22 29 (.ifCond .ne) := ⟨by decide +kernel, rfl⟩
theorem iX5_saying_22 : Ins mX5_saying 22 23 1 (.aload_n 0) := ⟨by decide +kernel, rfl⟩
theorem iX5_saying_23 : Ins mX5_saying 23 25 2 (.ldc 60) := ⟨by decide +kernel, rfl⟩
theorem iX5_saying_25 : Ins mX5_saying 25 28 3 (.invokevirtual 66) := ⟨by decide +kernel, rfl⟩
theorem iX5_saying_28 : Ins mX5_saying 28 29 1 (.ireturn) := ⟨by decide +kernel, rfl⟩
theorem iX5_saying_29 : Ins mX5_saying 29 30 1 (.aload_n 0) := ⟨by decide +kernel, rfl⟩
theorem iX5_saying_30 : Ins mX5_saying 30 33 3 (.getfield 9) := ⟨by decide +kernel, rfl⟩
theorem iX5_saying_33 : Ins mX5_saying 33 34 1 (.iconst 3) := ⟨by decide +kernel, rfl⟩
theorem iX5_saying_34 : Ins mX5_saying 34 35 1 (.iaload) := ⟨by decide +kernel, rfl⟩
theorem iX5_saying_35 : Ins mX5_saying 35 37 2 (.bipush 6) := ⟨by decide +kernel, rfl⟩
theorem iX5_saying_37 : InB mX5_saying 37 40 49 (.if_icmp .ne) := ⟨by decide +kernel, rfl⟩
theorem iX5_saying_40 : Ins mX5_saying 40 41 1 (.aload_n 0) := ⟨by decide +kernel, rfl⟩
theorem iX5_saying_41 : Ins mX5_saying 41 43 2 (.ldc 97) := ⟨by decide +kernel, rfl⟩
theorem iX5_saying_43 : Ins mX5_saying 43 46 3 (.invokevirtual 66) := ⟨by decide +kernel, rfl⟩
theorem iX5_saying_46 : InB mX5_saying 46 49 56 .goto := ⟨by decide +kernel, rfl⟩
theorem iX5_saying_49 : Ins mX5_saying 49 50 1 (.aload_n 0) := ⟨by decide +kernel, rfl⟩
theorem iX5_saying_50 : Ins mX5_saying 50 51 1 (.iload_n 1) := ⟨by decide +kernel, rfl⟩
theorem iX5_saying_51 : Ins mX5_saying 51 52 1 (.iload_n 2) := ⟨by decide +kernel, rfl⟩
theorem iX5_saying_52 : Ins mX5_saying 52 53 1 (.iload_n 3) := ⟨by decide +kernel, rfl⟩
theorem iX5_saying_53 : Ins mX5_saying 53 56 3 (.invokevirtual 108) := ⟨by decide +kernel, rfl⟩
theorem iX5_saying_56 : Ins mX5_saying 56 57 1 (.ireturn) := ⟨by decide +kernel, rfl⟩
theorem iX5_hasHeard_0 : Ins mX5_hasHeard 0 1 1 (.aload_n 0) := ⟨by decide +kernel, rfl⟩
theorem iX5_hasHeard_1 : Ins mX5_hasHeard 1 2 1 (.iload_n 1) := ⟨by decide +kernel, rfl⟩
theorem iX5_hasHeard_2 : Ins mX5_hasHeard 2 3 1 (.iconst 2) := ⟨by decide +kernel, rfl⟩
theorem iX5_hasHeard_3 : Ins mX5_hasHeard 3 6 3 (.invokevirtual 112) := ⟨by decide +kernel, rfl⟩
theorem iX5_hasHeard_6 : Ins mX5_hasHeard 6 7 1 (.iload_n 2) := ⟨by decide +kernel, rfl⟩
theorem iX5_hasHeard_7 : Ins mX5_hasHeard 7 8 1 (.ishr) := ⟨by decide +kernel, rfl⟩
theorem iX5_hasHeard_8 : Ins mX5_hasHeard 8 9 1 (.iconst 1) := ⟨by decide +kernel, rfl⟩
theorem iX5_hasHeard_9 : Ins mX5_hasHeard 9 10 1 (.iand) := ⟨by decide +kernel, rfl⟩
theorem iX5_hasHeard_10 : Ins mX5_hasHeard 10 11 1 (.iconst 1) := ⟨by decide +kernel, rfl⟩
theorem iX5_hasHeard_11 : InB mX5_hasHeard 11 14 18 (.if_icmp .ne) := ⟨by decide +kernel, rfl⟩
theorem iX5_hasHeard_14 : Ins mX5_hasHeard 14 15 1 (.iconst 1) := ⟨by decide +kernel, rfl⟩
theorem iX5_hasHeard_15 : InB mX5_hasHeard 15 18 19 .goto := ⟨by decide +kernel, rfl⟩
theorem iX5_hasHeard_18 : Ins mX5_hasHeard 18 19 1 (.iconst 0) := ⟨by decide +kernel, rfl⟩
theorem iX5_hasHeard_19 : Ins mX5_hasHeard 19 20 1 (.ireturn) := ⟨by decide +kernel, rfl⟩
theorem iX5_heardBy_0 : Ins mX5_heardBy 0 1 1 (.iconst 0) := ⟨by decide +kernel, rfl⟩
theorem iX5_heardBy_1 : Ins mX5_heardBy 1 2 1 (.istore_n 2) := ⟨by decide +kernel, rfl⟩
theorem iX5_heardBy_2 : Ins mX5_heardBy 2 3 1 (.iconst 0) := ⟨by decide +kernel, rfl⟩
theorem iX5_heardBy_3 : Ins mX5_heardBy 3 4 1 (.istore_n 3) := ⟨by decide +kernel, rfl⟩
theorem iX5_heardBy_4 : Ins mX5_heardBy 4 5 1 (.iload_n 3) := ⟨by decide +kernel, rfl⟩
theorem iX5_heardBy_5 : Ins mX5_heardBy 5 6 1 (.aload_n 0) := ⟨by decide +kernel, rfl⟩
theorem iX5_heardBy_6 : Ins mX5_heardBy 6 9 3 (.getfield 9) := ⟨by decide +kernel, rfl⟩
theorem iX5_heardBy_9 : Ins mX5_heardBy 9 10 1 (.iconst 3) := ⟨by decide +kernel, rfl⟩
theorem iX5_heardBy_10 : Ins mX5_heardBy 10 11 1 (.iaload) := ⟨by decide +kernel, rfl⟩
theorem iX5_heardBy_11 : InB mX5_heardBy 11 14 39 (.if_icmp .ge) := ⟨by decide +kernel, rfl⟩
theorem iX5_heardBy_14 : Ins mX5_heardBy 14 15 1 (.iload_n 2) := ⟨by decide +kernel, rfl⟩
theorem iX5_heardBy_15 : Ins mX5_heardBy 15 16 1 (.aload_n 0) := ⟨by decide +kernel, rfl⟩
theorem iX5_heardBy_16 : Ins mX5_heardBy 16 17 1 (.iload_n 3) := ⟨by decide +kernel, rfl⟩
theorem iX5_heardBy_17 : Ins mX5_heardBy 17 18 1 (.iload_n 1) := ⟨by decide +kernel, rfl⟩
theorem iX5_heardBy_18 : Ins mX5_heardBy 18 21 3 (.invokevirtual 115) := ⟨by decide +kernel, rfl⟩
theorem iX5_heardBy_21 : InB mX5_heardBy 21 24 30 (.ifCond .eq) := ⟨by decide +kernel, rfl⟩
theorem iX5_heardBy_24 : Ins mX5_heardBy 24 25 1 (.iconst 1) := ⟨by decide +kernel, rfl⟩
theorem iX5_heardBy_25 : Ins mX5_heardBy 25 26 1 (.iload_n 3) := ⟨by decide +kernel, rfl⟩
theorem iX5_heardBy_26 : Ins mX5_heardBy 26 27 1 (.ishl) := ⟨by decide +kernel, rfl⟩
theorem iX5_heardBy_27 : InB mX5_heardBy 27 30 31 .goto := ⟨by decide +kernel, rfl⟩
theorem iX5_heardBy_30 : Ins mX5_heardBy 30 31 1 (.iconst 0) := ⟨by decide +kernel, rfl⟩
theorem iX5_heardBy_31 : Ins mX5_heardBy 31 32 1 (.ior) := ⟨by decide +kernel, rfl⟩
theorem iX5_heardBy_32 : Ins mX5_heardBy 32 33 1 (.istore_n 2) := ⟨by decide +kernel, rfl⟩
theorem iX5_heardBy_33 : Ins mX5_heardBy 33 36 3 (.iinc 3 1) := ⟨by decide +kernel, rfl⟩
theorem iX5_heardBy_36 : InB mX5_heardBy 36 39 4 .goto := ⟨by decide +kernel, rfl⟩
theorem iX5_heardBy_39 : Ins mX5_heardBy 39 40 1 (.iload_n 2) := ⟨by decide +kernel, rfl⟩
theorem iX5_heardBy_40 : Ins mX5_heardBy 40 41 1 (.ireturn) := ⟨by decide +kernel, rfl⟩
theorem iX5_told_0 : Ins mX5_told 0 1 1 (.iload_n 2) := ⟨by decide +kernel, rfl⟩
theorem iX5_told_1 : Ins mX5_told 1 2 1 (.iconst 4) := ⟨by decide +kernel, rfl⟩
theorem iX5_told_2 : InB mX5_told 2 5 13 (.if_icmp .ne) := ⟨by decide +kernel, rfl⟩
theorem iX5_told_5 : Ins mX5_told 5 6 1 (.aload_n 0) := ⟨by decide +kernel, rfl⟩
theorem iX5_told_6 : Ins mX5_told 6 7 1 (.iload_n 1) := ⟨by decide +kernel, rfl⟩
theorem iX5_told_7 : Ins mX5_told 7 10 3 (.invokevirtual 119) := ⟨by decide +kernel, rfl⟩
theorem iX5_told_10 : InB mX5_told 10 13 19 .goto := ⟨by decide +kernel, rfl⟩
theorem iX5_told_13 : Ins mX5_told 13 14 1 (.aload_n 0) := ⟨by decide +kernel, rfl⟩
theorem iX5_told_14 : Ins mX5_told 14 15 1 (.iload_n 1) := ⟨by decide +kernel, rfl⟩
theorem iX5_told_15 : Ins mX5_told 15 16 1 (.iload_n 2) := ⟨by decide +kernel, rfl⟩
theorem iX5_told_16 : Ins mX5_told 16 19 3 (.invokevirtual 122) := ⟨by decide +kernel, rfl⟩
theorem iX5_told_19 : Ins mX5_told 19 20 1 (.ireturn) := ⟨by decide +kernel, rfl⟩
theorem iX5_of_0 : Ins mX5_of 0 1 1 (.aload_n 0) := ⟨by decide +kernel, rfl⟩
theorem iX5_of_1 : Ins mX5_of 1 2 1 (.iload_n 1) := ⟨by decide +kernel, rfl⟩
theorem iX5_of_2 : Ins mX5_of 2 5 3 (.invokevirtual 105) := ⟨by decide +kernel, rfl⟩
theorem iX5_of_5 : InB mX5_of 5 8 26 (.ifCond .eq) := ⟨by decide +kernel, rfl⟩
theorem iX5_of_8 : Ins mX5_of 8 9 1 (.iload_n 2) := ⟨by decide +kernel, rfl⟩
theorem iX5_of_9 : Ins mX5_of 9 10 1 (.iconst 0) := ⟨by decide +kernel, rfl⟩
theorem iX5_of_10 : Ins mX5_of 10 11 1 (.iconst 4) := ⟨by decide +kernel, rfl⟩
theorem iX5_of_11 : Ins mX5_of 11 14 3 (.invokestatic 70) := ⟨by decide +kernel, rfl⟩
theorem iX5_of_14 : InB mX5_of 14 17 26 (.ifCond .eq) := ⟨by decide +kernel, rfl⟩
theorem iX5_of_17 : Ins mX5_of 17 18 1 (.aload_n 0) := ⟨by decide +kernel, rfl⟩
theorem iX5_of_18 : Ins mX5_of 18 19 1 (.iload_n 1) := ⟨by decide +kernel, rfl⟩
theorem iX5_of_19 : Ins mX5_of 19 20 1 (.iload_n 2) := ⟨by decide +kernel, rfl⟩
theorem iX5_of_20 : Ins mX5_of 20 23 3 (.invokevirtual 125) := ⟨by decide +kernel, rfl⟩
theorem iX5_of_23 : InB mX5_of 23 26 32 .goto := ⟨by decide +kernel, rfl⟩
theorem iX5_of_26 : Ins mX5_of 26 27 1 (.aload_n 0) := ⟨by decide +kernel, rfl⟩
theorem iX5_of_27 : Ins mX5_of 27 29 2 (.ldc 60) := ⟨by decide +kernel, rfl⟩
theorem iX5_of_29 : Ins mX5_of 29 32 3 (.invokevirtual 66) := ⟨by decide +kernel, rfl⟩
theorem iX5_of_32 : Ins mX5_of 32 33 1 (.ireturn) := ⟨by decide +kernel, rfl⟩
theorem iX5_isField_0 : Ins mX5_isField 0 1 1 (.iload_n 0) := ⟨by decide +kernel, rfl⟩
theorem iX5_isField_1 : decode mX5_isField.2.1 1 = .ok (.tableswitch 57 0 3 #[31, 36, 41, 48], 31) := by decide +kernel
theorem iX5_isField_32 : Ins mX5_isField 32 33 1 (.iload_n 1) := ⟨by decide +kernel, rfl⟩
theorem iX5_isField_33 : Ins mX5_isField 33 36 3 (.invokestatic 91) := ⟨by decide +kernel, rfl⟩
theorem iX5_isField_36 : Ins mX5_isField 36 37 1 (.ireturn) := ⟨by decide +kernel, rfl⟩
theorem iX5_isField_37 : Ins mX5_isField 37 38 1 (.iload_n 1) := ⟨by decide +kernel, rfl⟩
theorem iX5_isField_38 : Ins mX5_isField 38 41 3 (.invokestatic 94) := ⟨by decide +kernel, rfl⟩
theorem iX5_isField_41 : Ins mX5_isField 41 42 1 (.ireturn) := ⟨by decide +kernel, rfl⟩
theorem iX5_isField_42 : Ins mX5_isField 42 43 1 (.iload_n 1) := ⟨by decide +kernel, rfl⟩
theorem iX5_isField_43 : Ins mX5_isField 43 44 1 (.iconst 0) := ⟨by decide +kernel, rfl⟩
theorem iX5_isField_44 : Ins mX5_isField 44 45 1 (.iconst 1) := ⟨by decide +kernel, rfl⟩
theorem iX5_isField_45 : Ins mX5_isField 45 48 3 (.invokestatic 70) := ⟨by decide +kernel, rfl⟩
theorem iX5_isField_48 : Ins mX5_isField 48 49 1 (.ireturn) := ⟨by decide +kernel, rfl⟩
theorem iX5_isField_49 : Ins mX5_isField 49 50 1 (.iload_n 1) := ⟨by decide +kernel, rfl⟩
theorem iX5_isField_50 : Ins mX5_isField 50 51 1 (.iconst 0) := ⟨by decide +kernel, rfl⟩
theorem iX5_isField_51 : Ins mX5_isField 51 54 3 (.sipush 9999) := ⟨by decide +kernel, rfl⟩
theorem iX5_isField_54 : Ins mX5_isField 54 57 3 (.invokestatic 70) := ⟨by decide +kernel, rfl⟩
theorem iX5_isField_57 : Ins mX5_isField 57 58 1 (.ireturn) := ⟨by decide +kernel, rfl⟩
theorem iX5_isField_58 : Ins mX5_isField 58 59 1 (.iconst 0) := ⟨by decide +kernel, rfl⟩
theorem iX5_isField_59 : Ins mX5_isField 59 60 1 (.ireturn) := ⟨by decide +kernel, rfl⟩
theorem iX5_change_0 : Ins mX5_change 0 1 1 (.aload_n 0) := ⟨by decide +kernel, rfl⟩
theorem iX5_change_1 : Ins mX5_change 1 2 1 (.iload_n 1) := ⟨by decide +kernel, rfl⟩
theorem iX5_change_2 : Ins mX5_change 2 5 3 (.invokevirtual 105) := ⟨by decide +kernel, rfl⟩
theorem iX5_change_5 : InB mX5_change 5 8 29 (.ifCond .eq) := ⟨by decide +kernel, rfl⟩
theorem iX5_change_8 : Ins mX5_change 8 9 1 (.iload_n 2) := ⟨by decide +kernel, rfl⟩
theorem iX5_change_9 : Ins mX5_change 9 10 1 (.iload_n 3) := ⟨by decide +kernel, rfl⟩
theorem iX5_change_10 : Ins mX5_change 10 13 3 (.invokestatic 128) := ⟨by decide +kernel, rfl⟩
theorem iX5_change_13 : InB mX5_change 13 16 29 (.ifCond .eq) := ⟨by decide +kernel, rfl⟩
theorem iX5_change_16 : Ins mX5_change 16 17 1 (.aload_n 0) := ⟨by decide +kernel, rfl⟩
theorem iX5_change_17 : Ins mX5_change 17 18 1 (.iload_n 1) := ⟨by decide +kernel, rfl⟩
theorem iX5_change_18 : Ins mX5_change 18 19 1 (.iload_n 2) := ⟨by decide +kernel, rfl⟩
theorem iX5_change_19 : Ins mX5_change 19 22 3 (.invokestatic 85) := ⟨by decide +kernel, rfl⟩
theorem iX5_change_22 : Ins mX5_change 22 23 1 (.iload_n 3) := ⟨by decide +kernel, rfl⟩
theorem iX5_change_23 : Ins mX5_change 23 26 3 (.invokevirtual 81) := ⟨by decide +kernel, rfl⟩
theorem iX5_change_26 : InB mX5_change 26 29 35 .goto := ⟨by decide +kernel, rfl⟩
theorem iX5_change_29 : Ins mX5_change 29 30 1 (.aload_n 0) := ⟨by decide +kernel, rfl⟩
theorem iX5_change_30 : Ins mX5_change 30 32 2 (.ldc 60) := ⟨by decide +kernel, rfl⟩
theorem iX5_change_32 : Ins mX5_change 32 35 3 (.invokevirtual 66) := ⟨by decide +kernel, rfl⟩
theorem iX5_change_35 : Ins mX5_change 35 36 1 (.ireturn) := ⟨by decide +kernel, rfl⟩
theorem iX5_ofSaying_0 : Ins mX5_ofSaying 0 1 1 (.aload_n 0) := ⟨by decide +kernel, rfl⟩
theorem iX5_ofSaying_1 : Ins mX5_ofSaying 1 2 1 (.iload_n 1) := ⟨by decide +kernel, rfl⟩
theorem iX5_ofSaying_2 : Ins mX5_ofSaying 2 5 3 (.invokevirtual 131) := ⟨by decide +kernel, rfl⟩
theorem iX5_ofSaying_5 : InB mX5_ofSaying 5 8 26 (.ifCond .eq) := ⟨by decide +kernel, rfl⟩
theorem iX5_ofSaying_8 : Ins mX5_ofSaying 8 9 1 (.iload_n 2) := ⟨by decide +kernel, rfl⟩
theorem iX5_ofSaying_9 : Ins mX5_ofSaying 9 10 1 (.iconst 0) := ⟨by decide +kernel, rfl⟩
theorem iX5_ofSaying_10 : Ins mX5_ofSaying 10 11 1 (.iconst 2) := ⟨by decide +kernel, rfl⟩
theorem iX5_ofSaying_11 : Ins mX5_ofSaying 11 14 3 (.invokestatic 70) := ⟨by decide +kernel, rfl⟩
theorem iX5_ofSaying_14 : InB mX5_ofSaying 14 17 26 (.ifCond .eq) := ⟨by decide +kernel, rfl⟩
theorem iX5_ofSaying_17 : Ins mX5_ofSaying 17 18 1 (.aload_n 0) := ⟨by decide +kernel, rfl⟩
theorem iX5_ofSaying_18 : Ins mX5_ofSaying 18 19 1 (.iload_n 1) := ⟨by decide +kernel, rfl⟩
theorem iX5_ofSaying_19 : Ins mX5_ofSaying 19 20 1 (.iload_n 2) := ⟨by decide +kernel, rfl⟩
theorem iX5_ofSaying_20 : Ins mX5_ofSaying 20 23 3 (.invokevirtual 112) := ⟨by decide +kernel, rfl⟩
theorem iX5_ofSaying_23 : InB mX5_ofSaying 23 26 32 .goto := ⟨by decide +kernel, rfl⟩
theorem iX5_ofSaying_26 : Ins mX5_ofSaying 26 27 1 (.aload_n 0) := ⟨by decide +kernel, rfl⟩
theorem iX5_ofSaying_27 : Ins mX5_ofSaying 27 29 2 (.ldc 60) := ⟨by decide +kernel, rfl⟩
theorem iX5_ofSaying_29 : Ins mX5_ofSaying 29 32 3 (.invokevirtual 66) := ⟨by decide +kernel, rfl⟩
theorem iX5_ofSaying_32 : Ins mX5_ofSaying 32 33 1 (.ireturn) := ⟨by decide +kernel, rfl⟩
theorem iX5_alter_0 : Ins mX5_alter 0 1 1 (.iload_n 2) := ⟨by decide +kernel, rfl⟩
theorem iX5_alter_1 : InB mX5_alter 1 4 11 (.ifCond .ne) := ⟨by decide +kernel, rfl⟩
theorem iX5_alter_4 : Ins mX5_alter 4 5 1 (.iload_n 3) := ⟨by decide +kernel, rfl⟩
theorem iX5_alter_5 : Ins mX5_alter 5 8 3 (.invokestatic 78) := ⟨by decide +kernel, rfl⟩
theorem iX5_alter_8 : InB mX5_alter 8 11 28 .goto := ⟨by decide +kernel, rfl⟩
theorem iX5_alter_11 : Ins mX5_alter 11 12 1 (.iload_n 2) := ⟨by decide +kernel, rfl⟩
theorem iX5_alter_12 : Ins mX5_alter 12 13 1 (.iconst 1) := ⟨by decide +kernel, rfl⟩
theorem iX5_alter_13 : InB mX5_alter 13 16 27 (.if_icmp .ne) := ⟨by decide +kernel, rfl⟩
theorem iX5_alter_16 : Ins mX5_alter 16 17 1 (.iload_n 3) := ⟨by decide +kernel, rfl⟩
theorem iX5_alter_17 : Ins mX5_alter 17 20 3 (.invokestatic 94) := ⟨by decide +kernel, rfl⟩
theorem iX5_alter_20 : InB mX5_alter 20 23 27 (.ifCond .eq) := ⟨by decide +kernel, rfl⟩
theorem iX5_alter_23 : Ins mX5_alter 23 24 1 (.iconst 1) := ⟨by decide +kernel, rfl⟩
theorem iX5_alter_24 : InB mX5_alter 24 27 28 .goto := ⟨by decide +kernel, rfl⟩
theorem iX5_alter_27 : Ins mX5_alter 27 28 1 (.iconst 0) := ⟨by decide +kernel, rfl⟩
theorem iX5_alter_28 : Ins mX5_alter 28 30 2 (.istore 4) := ⟨by decide +kernel, rfl⟩
theorem iX5_alter_30 : Ins mX5_alter 30 31 1 (.aload_n 0) := ⟨by decide +kernel, rfl⟩
theorem iX5_alter_31 : Ins mX5_alter 31 32 1 (.iload_n 1) := ⟨by decide +kernel, rfl⟩
theorem iX5_alter_32 : Ins mX5_alter 32 35 3 (.invokevirtual 131) := ⟨by decide +kernel, rfl⟩
theorem iX5_alter_35 : InB mX5_alter 35 38 56 (.ifCond .eq) := ⟨by decide +kernel, rfl⟩
theorem iX5_alter_38 : Ins mX5_alter 38 40 2 (.iload 4) := ⟨by decide +kernel, rfl⟩
theorem iX5_alter_40 : InB mX5_alter 40 43 56 (.ifCond .eq) := ⟨by decide +kernel, rfl⟩
theorem iX5_alter_43 : Ins mX5_alter 43 44 1 (.aload_n 0) := ⟨by decide +kernel, rfl⟩
theorem iX5_alter_44 : Ins mX5_alter 44 45 1 (.iload_n 1) := ⟨by decide +kernel, rfl⟩
theorem iX5_alter_45 : Ins mX5_alter 45 46 1 (.iload_n 2) := ⟨by decide +kernel, rfl⟩
theorem iX5_alter_46 : Ins mX5_alter 46 49 3 (.invokestatic 88) := ⟨by decide +kernel, rfl⟩
theorem iX5_alter_49 : Ins mX5_alter 49 50 1 (.iload_n 3) := ⟨by decide +kernel, rfl⟩
theorem iX5_alter_50 : Ins mX5_alter 50 53 3 (.invokevirtual 81) := ⟨by decide +kernel, rfl⟩
theorem iX5_alter_53 : InB mX5_alter 53 56 62 .goto := ⟨by decide +kernel, rfl⟩
theorem iX5_alter_56 : Ins mX5_alter 56 57 1 (.aload_n 0) := ⟨by decide +kernel, rfl⟩
theorem iX5_alter_57 : Ins mX5_alter 57 59 2 (.ldc 60) := ⟨by decide +kernel, rfl⟩
theorem iX5_alter_59 : Ins mX5_alter 59 62 3 (.invokevirtual 66) := ⟨by decide +kernel, rfl⟩
theorem iX5_alter_62 : Ins mX5_alter 62 63 1 (.ireturn) := ⟨by decide +kernel, rfl⟩
theorem iX5_from_0 : Ins mX5_from 0 1 1 (.aload_n 0) := ⟨by decide +kernel, rfl⟩
theorem iX5_from_1 : Ins mX5_from 1 2 1 (.iload_n 1) := ⟨by decide +kernel, rfl⟩
theorem iX5_from_2 : Ins mX5_from 2 5 3 (.invokevirtual 131) := ⟨by decide +kernel, rfl⟩
theorem iX5_from_5 : InB mX5_from 5 8 16 (.ifCond .eq) := ⟨by decide +kernel, rfl⟩
theorem iX5_from_8 : Ins mX5_from 8 9 1 (.aload_n 0) := ⟨by decide +kernel, rfl⟩
theorem iX5_from_9 : Ins mX5_from 9 10 1 (.iload_n 2) := ⟨by decide +kernel, rfl⟩
theorem iX5_from_10 : Ins mX5_from 10 13 3 (.invokevirtual 105) := ⟨by decide +kernel, rfl⟩
theorem iX5_from_13 : InB mX5_from 13 16 23 (.ifCond .ne) := ⟨by decide +kernel, rfl⟩
theorem iX5_from_16 : Ins mX5_from 16 17 1 (.aload_n 0) := ⟨by decide +kernel, rfl⟩
theorem iX5_from_17 : Ins mX5_from 17 19 2 (.ldc 60) := ⟨by decide +kernel, rfl⟩
theorem iX5_from_19 : Ins mX5_from 19 22 3 (.invokevirtual 66) := ⟨by decide +kernel, rfl⟩
theorem iX5_from_22 : Ins mX5_from 22 23 1 (.ireturn) := ⟨by decide +kernel, rfl⟩
theorem iX5_from_23 : Ins mX5_from 23 24 1 (.aload_n 0) := ⟨by decide +kernel, rfl⟩
theorem iX5_from_24 : Ins mX5_from 24 25 1 (.iload_n 1) := ⟨by decide +kernel, rfl⟩
theorem iX5_from_25 : Ins mX5_from 25 26 1 (.iload_n 2) := ⟨by decide +kernel, rfl⟩
theorem iX5_from_26 : Ins mX5_from 26 29 3 (.invokevirtual 115) := ⟨by decide +kernel, rfl⟩
theorem iX5_from_29 : InB mX5_from 29 32 43 (.ifCond .eq) := ⟨by decide +kernel, rfl⟩
theorem iX5_from_32 : Ins mX5_from 32 33 1 (.aload_n 0) := ⟨by decide +kernel, rfl⟩
theorem iX5_from_33 : Ins mX5_from 33 34 1 (.iload_n 1) := ⟨by decide +kernel, rfl⟩
theorem iX5_from_34 : Ins mX5_from 34 35 1 (.iconst 3) := ⟨by decide +kernel, rfl⟩
theorem iX5_from_35 : Ins mX5_from 35 36 1 (.iload_n 2) := ⟨by decide +kernel, rfl⟩
theorem iX5_from_36 : Ins mX5_from 36 37 1 (.iadd) := ⟨by decide +kernel, rfl⟩
theorem iX5_from_37 : Ins mX5_from 37 40 3 (.invokevirtual 112) := ⟨by decide +kernel, rfl⟩
theorem iX5_from_40 : InB mX5_from 40 43 49 .goto := ⟨by decide +kernel, rfl⟩
theorem iX5_from_43 : Ins mX5_from 43 44 1 (.aload_n 0) := ⟨by decide +kernel, rfl⟩
theorem iX5_from_44 : Ins mX5_from 44 46 2 (.ldc 65) := ⟨by decide +kernel, rfl⟩
theorem iX5_from_46 : Ins mX5_from 46 49 3 (.invokevirtual 66) := ⟨by decide +kernel, rfl⟩
theorem iX5_from_49 : Ins mX5_from 49 50 1 (.ireturn) := ⟨by decide +kernel, rfl⟩
theorem iX5_tracedFrom_0 : Ins mX5_tracedFrom 0 1 1 (.iconst 0) := ⟨by decide +kernel, rfl⟩
theorem iX5_tracedFrom_1 : Ins mX5_tracedFrom 1 2 1 (.istore_n 3) := ⟨by decide +kernel, rfl⟩
theorem iX5_tracedFrom_2 : Ins mX5_tracedFrom 2 3 1 (.iload_n 2) := ⟨by decide +kernel, rfl⟩
theorem iX5_tracedFrom_3 : Ins mX5_tracedFrom 3 5 2 (.istore 4) := ⟨by decide +kernel, rfl⟩
theorem iX5_tracedFrom_5 : Ins mX5_tracedFrom 5 7 2 (.iload 4) := ⟨by decide +kernel, rfl⟩
theorem iX5_tracedFrom_7 : Ins mX5_tracedFrom 7 10 3 (.invokestatic 78) := ⟨by decide +kernel, rfl⟩
theorem iX5_tracedFrom_10 : InB mX5_tracedFrom 10 13 66 (.ifCond .eq) := ⟨by decide +kernel, rfl⟩
theorem iX5_tracedFrom_13 : Ins mX5_tracedFrom 13 14 1 (.aload_n 0) := ⟨by decide +kernel, rfl⟩
theorem iX5_tracedFrom_14 : Ins mX5_tracedFrom 14 15 1 (.iload_n 1) := ⟨by decide +kernel, rfl⟩
theorem iX5_tracedFrom_15 : Ins mX5_tracedFrom 15 17 2 (.iload 4) := ⟨by decide +kernel, rfl⟩
theorem iX5_tracedFrom_17 : Ins mX5_tracedFrom 17 20 3 (.invokevirtual 115) := ⟨by decide +kernel, rfl⟩
theorem iX5_tracedFrom_20 : InB mX5_tracedFrom 20 23 66 (.ifCond .eq) := ⟨by decide +kernel, rfl⟩
theorem iX5_tracedFrom_23 : Ins mX5_tracedFrom 23 24 1 (.iload_n 3) := ⟨by decide +kernel, rfl⟩
theorem iX5_tracedFrom_24 : Ins mX5_tracedFrom 24 26 2 (.iload 4) := ⟨by decide +kernel, rfl⟩
theorem iX5_tracedFrom_26 : Ins mX5_tracedFrom 26 27 1 (.ishr) := ⟨by decide +kernel, rfl⟩
theorem iX5_tracedFrom_27 : Ins mX5_tracedFrom 27 28 1 (.iconst 1) := ⟨by decide +kernel, rfl⟩
theorem iX5_tracedFrom_28 : Ins mX5_tracedFrom 28 29 1 (.iand) := ⟨by decide +kernel, rfl⟩
theorem iX5_tracedFrom_29 : InB mX5_tracedFrom 29 32 66 (.ifCond .ne) := ⟨by decide +kernel, rfl⟩
theorem iX5_tracedFrom_32 : Ins mX5_tracedFrom 32 33 1 (.iload_n 3) := ⟨by decide +kernel, rfl⟩
theorem iX5_tracedFrom_33 : Ins mX5_tracedFrom 33 34 1 (.iconst 1) := ⟨by decide +kernel, rfl⟩
theorem iX5_tracedFrom_34 : Ins mX5_tracedFrom 34 36 2 (.iload 4) := ⟨by decide +kernel, rfl⟩
theorem iX5_tracedFrom_36 : Ins mX5_tracedFrom 36 37 1 (.ishl) := ⟨by decide +kernel, rfl⟩
theorem iX5_tracedFrom_37 : Ins mX5_tracedFrom 37 38 1 (.ior) := ⟨by decide +kernel, rfl⟩
theorem iX5_tracedFrom_38 : Ins mX5_tracedFrom 38 39 1 (.istore_n 3) := ⟨by decide +kernel, rfl⟩
theorem iX5_tracedFrom_39 : Ins mX5_tracedFrom 39 40 1 (.aload_n 0) := ⟨by decide +kernel, rfl⟩
theorem iX5_tracedFrom_40 : Ins mX5_tracedFrom 40 41 1 (.iload_n 1) := ⟨by decide +kernel, rfl⟩
theorem iX5_tracedFrom_41 : Ins mX5_tracedFrom 41 42 1 (.iconst 3) := ⟨by decide +kernel, rfl⟩
theorem iX5_tracedFrom_42 : Ins mX5_tracedFrom 42 44 2 (.iload 4) := ⟨by decide +kernel, rfl⟩
theorem iX5_tracedFrom_44 : Ins mX5_tracedFrom 44 45 1 (.iadd) := ⟨by decide +kernel, rfl⟩
theorem iX5_tracedFrom_45 : Ins mX5_tracedFrom 45 48 3 (.invokevirtual 112) := ⟨by decide +kernel, rfl⟩
theorem iX5_tracedFrom_48 : Ins mX5_tracedFrom 48 50 2 (.istore 5) := ⟨by decide +kernel, rfl⟩
theorem iX5_tracedFrom_50 : Ins mX5_tracedFrom 50 52 2 (.iload 5) := ⟨by decide +kernel, rfl⟩
theorem iX5_tracedFrom_52 : Ins mX5_tracedFrom 52 53 1 (.iconst (-1)) := ⟨by decide +kernel, rfl⟩
theorem iX5_tracedFrom_53 : InB mX5_tracedFrom 53 56 59 (.if_icmp .ne) := ⟨by decide +kernel, rfl⟩
theorem iX5_tracedFrom_56 : Ins mX5_tracedFrom 56 58 2 (.iload 4) := ⟨by decide +kernel, rfl⟩
theorem iX5_tracedFrom_58 : Ins mX5_tracedFrom 58 59 1 (.ireturn) := ⟨by decide +kernel, rfl⟩
theorem iX5_tracedFrom_59 : Ins mX5_tracedFrom 59 61 2 (.iload 5) := ⟨by decide +kernel, rfl⟩
theorem iX5_tracedFrom_61 : Ins mX5_tracedFrom 61 63 2 (.istore 4) := ⟨by decide +kernel, rfl⟩
theorem iX5_tracedFrom_63 : InB mX5_tracedFrom 63 66 5 .goto := ⟨by decide +kernel, rfl⟩
theorem iX5_tracedFrom_66 : Ins mX5_tracedFrom 66 68 2 (.bipush 8) := ⟨by decide +kernel, rfl⟩
theorem iX5_tracedFrom_68 : Ins mX5_tracedFrom 68 69 1 (.ireturn) := ⟨by decide +kernel, rfl⟩
theorem iX5_traced_0 : Ins mX5_traced 0 1 1 (.aload_n 0) := ⟨by decide +kernel, rfl⟩
theorem iX5_traced_1 : Ins mX5_traced 1 2 1 (.iload_n 1) := ⟨by decide +kernel, rfl⟩
theorem iX5_traced_2 : Ins mX5_traced 2 5 3 (.invokevirtual 131) := ⟨by decide +kernel, rfl⟩
theorem iX5_traced_5 : InB mX5_traced 5 8 16 (.ifCond .eq) := ⟨by decide +kernel, rfl⟩
theorem iX5_traced_8 : Ins mX5_traced 8 9 1 (.aload_n 0) := ⟨by decide +kernel, rfl⟩
theorem iX5_traced_9 : Ins mX5_traced 9 10 1 (.iload_n 2) := ⟨by decide +kernel, rfl⟩
theorem iX5_traced_10 : Ins mX5_traced 10 13 3 (.invokevirtual 105) := ⟨by decide +kernel, rfl⟩
theorem iX5_traced_13 : InB mX5_traced 13 16 23 (.ifCond .ne) := ⟨by decide +kernel, rfl⟩
theorem iX5_traced_16 : Ins mX5_traced 16 17 1 (.aload_n 0) := ⟨by decide +kernel, rfl⟩
theorem iX5_traced_17 : Ins mX5_traced 17 19 2 (.ldc 60) := ⟨by decide +kernel, rfl⟩
theorem iX5_traced_19 : Ins mX5_traced 19 22 3 (.invokevirtual 66) := ⟨by decide +kernel, rfl⟩
theorem iX5_traced_22 : Ins mX5_traced 22 23 1 (.ireturn) := ⟨by decide +kernel, rfl⟩
theorem iX5_traced_23 : Ins mX5_traced 23 24 1 (.aload_n 0) := ⟨by decide +kernel, rfl⟩
theorem iX5_traced_24 : Ins mX5_traced 24 25 1 (.iload_n 1) := ⟨by decide +kernel, rfl⟩
theorem iX5_traced_25 : Ins mX5_traced 25 26 1 (.iload_n 2) := ⟨by decide +kernel, rfl⟩
theorem iX5_traced_26 : Ins mX5_traced 26 29 3 (.invokevirtual 115) := ⟨by decide +kernel, rfl⟩
theorem iX5_traced_29 : InB mX5_traced 29 32 41 (.ifCond .eq) := ⟨by decide +kernel, rfl⟩
theorem iX5_traced_32 : Ins mX5_traced 32 33 1 (.aload_n 0) := ⟨by decide +kernel, rfl⟩
theorem iX5_traced_33 : Ins mX5_traced 33 34 1 (.iload_n 1) := ⟨by decide +kernel, rfl⟩
theorem iX5_traced_34 : Ins mX5_traced 34 35 1 (.iload_n 2) := ⟨by decide +kernel, rfl⟩
theorem iX5_traced_35 : Ins mX5_traced 35 38 3 (.invokevirtual 134) := ⟨by decide +kernel, rfl⟩
theorem iX5_traced_38 : InB mX5_traced 38 41 47 .goto := ⟨by decide +kernel, rfl⟩
theorem iX5_traced_41 : Ins mX5_traced 41 42 1 (.aload_n 0) := ⟨by decide +kernel, rfl⟩
theorem iX5_traced_42 : Ins mX5_traced 42 44 2 (.ldc 65) := ⟨by decide +kernel, rfl⟩
theorem iX5_traced_44 : Ins mX5_traced 44 47 3 (.invokevirtual 66) := ⟨by decide +kernel, rfl⟩
theorem iX5_traced_47 : Ins mX5_traced 47 48 1 (.ireturn) := ⟨by decide +kernel, rfl⟩
theorem iX5_tells_0 : Ins mX5_tells 0 1 1 (.aload_n 0) := ⟨by decide +kernel, rfl⟩
theorem iX5_tells_1 : Ins mX5_tells 1 2 1 (.iload_n 3) := ⟨by decide +kernel, rfl⟩
theorem iX5_tells_2 : Ins mX5_tells 2 3 1 (.iconst 0) := ⟨by decide +kernel, rfl⟩
theorem iX5_tells_3 : Ins mX5_tells 3 6 3 (.invokevirtual 112) := ⟨by decide +kernel, rfl⟩
theorem iX5_tells_6 : Ins mX5_tells 6 8 2 (.istore 4) := ⟨by decide +kernel, rfl⟩
theorem iX5_tells_8 : Ins mX5_tells 8 9 1 (.aload_n 0) := ⟨by decide +kernel, rfl⟩
theorem iX5_tells_9 : Ins mX5_tells 9 10 1 (.iload_n 3) := ⟨by decide +kernel, rfl⟩
theorem iX5_tells_10 : Ins mX5_tells 10 11 1 (.iconst 1) := ⟨by decide +kernel, rfl⟩
theorem iX5_tells_11 : Ins mX5_tells 11 14 3 (.invokevirtual 112) := ⟨by decide +kernel, rfl⟩
theorem iX5_tells_14 : Ins mX5_tells 14 15 1 (.iconst 5) := ⟨by decide +kernel, rfl⟩
theorem iX5_tells_15 : InB mX5_tells 15 18 22 (.if_icmp .lt) := ⟨by decide +kernel, rfl⟩
theorem iX5_tells_18 : Ins mX5_tells 18 19 1 (.iconst 1) := ⟨by decide +kernel, rfl⟩
theorem iX5_tells_19 : InB mX5_tells 19 22 23 .goto := ⟨by decide +kernel, rfl⟩
theorem iX5_tells_22 : Ins mX5_tells 22 23 1 (.iconst 0) := ⟨by decide +kernel, rfl⟩
theorem iX5_tells_23 : Ins mX5_tells 23 25 2 (.istore 5) := ⟨by decide +kernel, rfl⟩
theorem iX5_tells_25 : Ins mX5_tells 25 26 1 (.aload_n 0) := ⟨by decide +kernel, rfl⟩
theorem iX5_tells_26 : Ins mX5_tells 26 27 1 (.iload_n 1) := ⟨by decide +kernel, rfl⟩
theorem iX5_tells_27 : Ins mX5_tells 27 28 1 (.iconst 0) := ⟨by decide +kernel, rfl⟩
theorem iX5_tells_28 : Ins mX5_tells 28 31 3 (.invokevirtual 122) := ⟨by decide +kernel, rfl⟩
theorem iX5_tells_31 : decode mX5_tells.2.1 31 = .ok (.tableswitch 85 1 6 #[37, 51, 54, 71, 83, 39], 37) := by decide +kernel
theorem iX5_tells_68 : Ins mX5_tells 68 69 1 (.iconst 1) := ⟨by decide +kernel, rfl⟩
theorem iX5_tells_69 : Ins mX5_tells 69 70 1 (.ireturn) := ⟨by decide +kernel, rfl⟩
theorem iX5_tells_70 : Ins mX5_tells 70 72 2 (.iload 4) := ⟨by decide +kernel, rfl⟩
theorem iX5_tells_72 : Ins mX5_tells 72 73 1 (.iload_n 2) := ⟨by decide +kernel, rfl⟩
theorem iX5_tells_73 : InB mX5_tells 73 76 80 (.if_icmp .eq) := ⟨by decide +kernel, rfl⟩
theorem iX5_tells_76 : Ins mX5_tells 76 77 1 (.iconst 1) := ⟨by decide +kernel, rfl⟩
theorem iX5_tells_77 : InB mX5_tells 77 80 81 .goto := ⟨by decide +kernel, rfl⟩
theorem iX5_tells_80 : Ins mX5_tells 80 81 1 (.iconst 0) := ⟨by decide +kernel, rfl⟩
theorem iX5_tells_81 : Ins mX5_tells 81 82 1 (.ireturn) := ⟨by decide +kernel, rfl⟩
theorem iX5_tells_82 : Ins mX5_tells 82 84 2 (.iload 5) := ⟨by decide +kernel, rfl⟩
theorem iX5_tells_84 : Ins mX5_tells 84 85 1 (.ireturn) := ⟨by decide +kernel, rfl⟩
theorem iX5_tells_85 : Ins mX5_tells 85 87 2 (.iload 5) := ⟨by decide +kernel, rfl⟩
theorem iX5_tells_87 : InB mX5_tells 87 90 100 (.ifCond .eq) := ⟨by decide +kernel, rfl⟩
theorem iX5_tells_90 : Ins mX5_tells 90 92 2 (.iload 4) := ⟨by decide +kernel, rfl⟩
theorem iX5_tells_92 : Ins mX5_tells 92 93 1 (.iload_n 2) := ⟨by decide +kernel, rfl⟩
theorem iX5_tells_93 : InB mX5_tells 93 96 100 (.if_icmp .eq) := ⟨by decide +kernel, rfl⟩
theorem iX5_tells_96 : Ins mX5_tells 96 97 1 (.iconst 1) := ⟨by decide +kernel, rfl⟩
theorem iX5_tells_97 : InB mX5_tells 97 100 101 .goto := ⟨by decide +kernel, rfl⟩
theorem iX5_tells_100 : Ins mX5_tells 100 101 1 (.iconst 0) := ⟨by decide +kernel, rfl⟩
theorem iX5_tells_101 : Ins mX5_tells 101 102 1 (.ireturn) := ⟨by decide +kernel, rfl⟩
theorem iX5_tells_102 : Ins mX5_tells 102 104 2 (.iload 4) := ⟨by decide +kernel, rfl⟩
theorem iX5_tells_104 : Ins mX5_tells 104 105 1 (.iload_n 1) := ⟨by decide +kernel, rfl⟩
theorem iX5_tells_105 : InB mX5_tells 105 108 112 (.if_icmp .ne) := ⟨by decide +kernel, rfl⟩
theorem iX5_tells_108 : Ins mX5_tells 108 109 1 (.iconst 1) := ⟨by decide +kernel, rfl⟩
theorem iX5_tells_109 : InB mX5_tells 109 112 113 .goto := ⟨by decide +kernel, rfl⟩
theorem iX5_tells_112 : Ins mX5_tells 112 113 1 (.iconst 0) := ⟨by decide +kernel, rfl⟩
theorem iX5_tells_113 : Ins mX5_tells 113 114 1 (.ireturn) := ⟨by decide +kernel, rfl⟩
theorem iX5_tells_114 : Ins mX5_tells 114 115 1 (.iconst 0) := ⟨by decide +kernel, rfl⟩
theorem iX5_tells_115 : Ins mX5_tells 115 116 1 (.ireturn) := ⟨by decide +kernel, rfl⟩
theorem iX5_tells_116 : Ins mX5_tells 116 118 2 (.iload 4) := ⟨by decide +kernel, rfl⟩
theorem iX5_tells_118 : Ins mX5_tells 118 119 1 (.iload_n 1) := ⟨by decide +kernel, rfl⟩
theorem iX5_tells_119 : InB mX5_tells 119 122 126 (.if_icmp .eq) := ⟨by decide +kernel, rfl⟩
theorem iX5_tells_122 : Ins mX5_tells 122 123 1 (.iconst 1) := ⟨by decide +kernel, rfl⟩
theorem iX5_tells_123 : InB mX5_tells 123 126 127 .goto := ⟨by decide +kernel, rfl⟩
theorem iX5_tells_126 : Ins mX5_tells 126 127 1 (.iconst 0) := ⟨by decide +kernel, rfl⟩
theorem iX5_tells_127 : Ins mX5_tells 127 128 1 (.ireturn) := ⟨by decide +kernel, rfl⟩
theorem iX5_believes_0 : Ins mX5_believes 0 1 1 (.aload_n 0) := ⟨by decide +kernel, rfl⟩
theorem iX5_believes_1 : Ins mX5_believes 1 2 1 (.iload_n 2) := ⟨by decide +kernel, rfl⟩
theorem iX5_believes_2 : Ins mX5_believes 2 3 1 (.iconst 1) := ⟨by decide +kernel, rfl⟩
theorem iX5_believes_3 : Ins mX5_believes 3 6 3 (.invokevirtual 112) := ⟨by decide +kernel, rfl⟩
theorem iX5_believes_6 : Ins mX5_believes 6 7 1 (.istore_n 3) := ⟨by decide +kernel, rfl⟩
theorem iX5_believes_7 : Ins mX5_believes 7 8 1 (.iload_n 3) := ⟨by decide +kernel, rfl⟩
theorem iX5_believes_8 : Ins mX5_believes 8 9 1 (.aload_n 0) := ⟨by decide +kernel, rfl⟩
theorem iX5_believes_9 : Ins mX5_believes 9 10 1 (.iload_n 1) := ⟨by decide +kernel, rfl⟩
theorem iX5_believes_10 : Ins mX5_believes 10 11 1 (.iconst 1) := ⟨by decide +kernel, rfl⟩
theorem iX5_believes_11 : Ins mX5_believes 11 14 3 (.invokevirtual 122) := ⟨by decide +kernel, rfl⟩
theorem iX5_believes_14 : InB mX5_believes 14 17 21 (.if_icmp .gt) := ⟨by decide +kernel, rfl⟩
theorem iX5_believes_17 : Ins mX5_believes 17 18 1 (.iconst 1) := ⟨by decide +kernel, rfl⟩
theorem iX5_believes_18 : InB mX5_believes 18 21 22 .goto := ⟨by decide +kernel, rfl⟩
theorem iX5_believes_21 : Ins mX5_believes 21 22 1 (.iconst 0) := ⟨by decide +kernel, rfl⟩
theorem iX5_believes_22 : Ins mX5_believes 22 24 2 (.istore 4) := ⟨by decide +kernel, rfl⟩
theorem iX5_believes_24 : Ins mX5_believes 24 26 2 (.iload 4) := ⟨by decide +kernel, rfl⟩
theorem iX5_believes_26 : InB mX5_believes 26 29 43 (.ifCond .eq) := ⟨by decide +kernel, rfl⟩
theorem iX5_believes_29 : Ins mX5_believes 29 30 1 (.aload_n 0) := ⟨by decide +kernel, rfl⟩
theorem iX5_believes_30 : Ins mX5_believes 30 31 1 (.iload_n 2) := ⟨by decide +kernel, rfl⟩
theorem iX5_believes_31 : Ins mX5_believes 31 32 1 (.iconst 0) := ⟨by decide +kernel, rfl⟩
theorem iX5_believes_32 : Ins mX5_believes 32 35 3 (.invokevirtual 112) := ⟨by decide +kernel, rfl⟩
theorem iX5_believes_35 : Ins mX5_believes 35 36 1 (.iload_n 1) := ⟨by decide +kernel, rfl⟩
theorem iX5_believes_36 : InB mX5_believes 36 39 43 (.if_icmp .eq) := ⟨by decide +kernel, rfl⟩
theorem iX5_believes_39 : Ins mX5_believes 39 40 1 (.iconst 1) := ⟨by decide +kernel, rfl⟩
theorem iX5_believes_40 : InB mX5_believes 40 43 44 .goto := ⟨by decide +kernel, rfl⟩
theorem iX5_believes_43 : Ins mX5_believes 43 44 1 (.iconst 0) := ⟨by decide +kernel, rfl⟩
theorem iX5_believes_44 : Ins mX5_believes 44 46 2 (.istore 5) := ⟨by decide +kernel, rfl⟩
theorem iX5_believes_46 : Ins mX5_believes 46 47 1 (.aload_n 0) := ⟨by decide +kernel, rfl⟩
theorem iX5_believes_47 : Ins mX5_believes 47 48 1 (.iload_n 1) := ⟨by decide +kernel, rfl⟩
theorem iX5_believes_48 : Ins mX5_believes 48 49 1 (.iconst 0) := ⟨by decide +kernel, rfl⟩
theorem iX5_believes_49 : Ins mX5_believes 49 52 3 (.invokevirtual 122) := ⟨by decide +kernel, rfl⟩
theorem iX5_believes_52 : decode mX5_believes.2.1 52 = .ok (.tableswitch 85 1 6 #[40, 60, 63, 40, 85, 42], 40) := by decide +kernel
theorem iX5_believes_92 : Ins mX5_believes 92 93 1 (.iconst 1) := ⟨by decide +kernel, rfl⟩
theorem iX5_believes_93 : Ins mX5_believes 93 94 1 (.ireturn) := ⟨by decide +kernel, rfl⟩
theorem iX5_believes_94 : Ins mX5_believes 94 96 2 (.iload 4) := ⟨by decide +kernel, rfl⟩
theorem iX5_believes_96 : InB mX5_believes 96 99 106 (.ifCond .ne) := ⟨by decide +kernel, rfl⟩
theorem iX5_believes_99 : Ins mX5_believes 99 100 1 (.iload_n 3) := ⟨by decide +kernel, rfl⟩
theorem iX5_believes_100 : Ins mX5_believes 100 101 1 (.iconst 2) := ⟨by decide +kernel, rfl⟩
theorem iX5_believes_101 : Ins mX5_believes 101 102 1 (.irem) := ⟨by decide +kernel, rfl⟩
theorem iX5_believes_102 : Ins mX5_believes 102 103 1 (.iconst 1) := ⟨by decide +kernel, rfl⟩
theorem iX5_believes_103 : InB mX5_believes 103 106 110 (.if_icmp .ne) := ⟨by decide +kernel, rfl⟩
theorem iX5_believes_106 : Ins mX5_believes 106 107 1 (.iconst 1) := ⟨by decide +kernel, rfl⟩
theorem iX5_believes_107 : InB mX5_believes 107 110 111 .goto := ⟨by decide +kernel, rfl⟩
theorem iX5_believes_110 : Ins mX5_believes 110 111 1 (.iconst 0) := ⟨by decide +kernel, rfl⟩
theorem iX5_believes_111 : Ins mX5_believes 111 112 1 (.ireturn) := ⟨by decide +kernel, rfl⟩
theorem iX5_believes_112 : Ins mX5_believes 112 114 2 (.iload 5) := ⟨by decide +kernel, rfl⟩
theorem iX5_believes_114 : Ins mX5_believes 114 115 1 (.ireturn) := ⟨by decide +kernel, rfl⟩
theorem iX5_believes_115 : Ins mX5_believes 115 117 2 (.iload 5) := ⟨by decide +kernel, rfl⟩
theorem iX5_believes_117 : InB mX5_believes 117 120 135 (.ifCond .eq) := ⟨by decide +kernel, rfl⟩
theorem iX5_believes_120 : Ins mX5_believes 120 121 1 (.aload_n 0) := ⟨by decide +kernel, rfl⟩
theorem iX5_believes_121 : Ins mX5_believes 121 124 3 (.getfield 9) := ⟨by decide +kernel, rfl⟩
theorem iX5_believes_124 : Ins mX5_believes 124 125 1 (.iconst 0) := ⟨by decide +kernel, rfl⟩
theorem iX5_believes_125 : Ins mX5_believes 125 126 1 (.iaload) := ⟨by decide +kernel, rfl⟩
theorem iX5_believes_126 : Ins mX5_believes 126 127 1 (.iconst 2) := ⟨by decide +kernel, rfl⟩
theorem iX5_believes_127 : Ins mX5_believes 127 128 1 (.irem) := ⟨by decide +kernel, rfl⟩
theorem iX5_believes_128 : InB mX5_believes 128 131 135 (.ifCond .ne) := ⟨by decide +kernel, rfl⟩
theorem iX5_believes_131 : Ins mX5_believes 131 132 1 (.iconst 1) := ⟨by decide +kernel, rfl⟩
theorem iX5_believes_132 : InB mX5_believes 132 135 136 .goto := ⟨by decide +kernel, rfl⟩
theorem iX5_believes_135 : Ins mX5_believes 135 136 1 (.iconst 0) := ⟨by decide +kernel, rfl⟩
theorem iX5_believes_136 : Ins mX5_believes 136 137 1 (.ireturn) := ⟨by decide +kernel, rfl⟩
theorem iX5_believes_137 : Ins mX5_believes 137 139 2 (.iload 4) := ⟨by decide +kernel, rfl⟩
theorem iX5_believes_139 : Ins mX5_believes 139 140 1 (.ireturn) := ⟨by decide +kernel, rfl⟩
theorem iX5_names_0 : Ins mX5_names 0 1 1 (.aload_n 0) := ⟨by decide +kernel, rfl⟩
theorem iX5_names_1 : Ins mX5_names 1 2 1 (.iload_n 1) := ⟨by decide +kernel, rfl⟩
theorem iX5_names_2 : Ins mX5_names 2 3 1 (.iconst 0) := ⟨by decide +kernel, rfl⟩
theorem iX5_names_3 : Ins mX5_names 3 6 3 (.invokevirtual 122) := ⟨by decide +kernel, rfl⟩
theorem iX5_names_6 : Ins mX5_names 6 7 1 (.istore_n 3) := ⟨by decide +kernel, rfl⟩
theorem iX5_names_7 : Ins mX5_names 7 8 1 (.iload_n 3) := ⟨by decide +kernel, rfl⟩
theorem iX5_names_8 : Ins mX5_names 8 9 1 (.iconst 1) := ⟨by decide +kernel, rfl⟩
theorem iX5_names_9 : InB mX5_names 9 12 22 (.if_icmp .eq) := ⟨by decide +kernel, rfl⟩
theorem iX5_names_12 : Ins mX5_names 12 13 1 (.iload_n 3) := ⟨by decide +kernel, rfl⟩
theorem iX5_names_13 : Ins mX5_names 13 14 1 (.iconst 4) := ⟨by decide +kernel, rfl⟩
theorem iX5_names_14 : InB mX5_names 14 17 22 (.if_icmp .eq) := ⟨by decide +kernel, rfl⟩
theorem iX5_names_17 : Ins mX5_names 17 18 1 (.iload_n 3) := ⟨by decide +kernel, rfl⟩
theorem iX5_names_18 : Ins mX5_names 18 19 1 (.iconst 5) := ⟨by decide +kernel, rfl⟩
theorem iX5_names_19 : InB mX5_names 19 22 27 (.if_icmp .ne) := ⟨by decide +kernel, rfl⟩
theorem iX5_names_22 : Ins mX5_names 22 24 2 (.bipush 8) := ⟨by decide +kernel, rfl⟩
theorem iX5_names_24 : InB mX5_names 24 27 28 .goto := ⟨by decide +kernel, rfl⟩
theorem iX5_names_27 : Ins mX5_names 27 28 1 (.iload_n 2) := ⟨by decide +kernel, rfl⟩
theorem iX5_names_28 : Ins mX5_names 28 29 1 (.ireturn) := ⟨by decide +kernel, rfl⟩
theorem iX5_pays_0 : Ins mX5_pays 0 1 1 (.aload_n 0) := ⟨by decide +kernel, rfl⟩
theorem iX5_pays_1 : Ins mX5_pays 1 2 1 (.iload_n 1) := ⟨by decide +kernel, rfl⟩
theorem iX5_pays_2 : Ins mX5_pays 2 3 1 (.iconst 0) := ⟨by decide +kernel, rfl⟩
theorem iX5_pays_3 : Ins mX5_pays 3 6 3 (.invokevirtual 122) := ⟨by decide +kernel, rfl⟩
theorem iX5_pays_6 : decode mX5_pays.2.1 6 = .ok (.tableswitch 55 1 6 #[38, 44, 48, 53, 55, 42], 38) := by decide +kernel
theorem iX5_pays_44 : Ins mX5_pays 44 45 1 (.iconst 2) := ⟨by decide +kernel, rfl⟩
theorem iX5_pays_45 : Ins mX5_pays 45 46 1 (.iload_n 2) := ⟨by decide +kernel, rfl⟩
theorem iX5_pays_46 : Ins mX5_pays 46 47 1 (.imul) := ⟨by decide +kernel, rfl⟩
theorem iX5_pays_47 : Ins mX5_pays 47 48 1 (.ireturn) := ⟨by decide +kernel, rfl⟩
theorem iX5_pays_48 : Ins mX5_pays 48 49 1 (.iconst 0) := ⟨by decide +kernel, rfl⟩
theorem iX5_pays_49 : Ins mX5_pays 49 50 1 (.ireturn) := ⟨by decide +kernel, rfl⟩
theorem iX5_pays_50 : Ins mX5_pays 50 51 1 (.iload_n 2) := ⟨by decide +kernel, rfl⟩
theorem iX5_pays_51 : Ins mX5_pays 51 52 1 (.iconst 2) := ⟨by decide +kernel, rfl⟩
theorem iX5_pays_52 : Ins mX5_pays 52 53 1 (.iadd) := ⟨by decide +kernel, rfl⟩
theorem iX5_pays_53 : Ins mX5_pays 53 54 1 (.ireturn) := ⟨by decide +kernel, rfl⟩
theorem iX5_pays_54 : Ins mX5_pays 54 55 1 (.iload_n 2) := ⟨by decide +kernel, rfl⟩
theorem iX5_pays_55 : Ins mX5_pays 55 57 2 (.bipush 7) := ⟨by decide +kernel, rfl⟩
theorem iX5_pays_57 : Ins mX5_pays 57 58 1 (.iadd) := ⟨by decide +kernel, rfl⟩
theorem iX5_pays_58 : Ins mX5_pays 58 59 1 (.ireturn) := ⟨by decide +kernel, rfl⟩
theorem iX5_pays_59 : Ins mX5_pays 59 60 1 (.iconst 1) := ⟨by decide +kernel, rfl⟩
theorem iX5_pays_60 : Ins mX5_pays 60 61 1 (.ireturn) := ⟨by decide +kernel, rfl⟩
theorem iX5_pays_61 : Ins mX5_pays 61 62 1 (.iload_n 2) := ⟨by decide +kernel, rfl⟩
theorem iX5_pays_62 : Ins mX5_pays 62 63 1 (.ireturn) := ⟨by decide +kernel, rfl⟩
theorem iX5_mayTalk_0 : Ins mX5_mayTalk 0 1 1 (.aload_n 0) := ⟨by decide +kernel, rfl⟩
theorem iX5_mayTalk_1 : Ins mX5_mayTalk 1 2 1 (.iload_n 1) := ⟨by decide +kernel, rfl⟩
theorem iX5_mayTalk_2 : Ins mX5_mayTalk 2 3 1 (.iconst 2) := ⟨by decide +kernel, rfl⟩
theorem iX5_mayTalk_3 : Ins mX5_mayTalk 3 6 3 (.invokevirtual 122) := ⟨by decide +kernel, rfl⟩
theorem iX5_mayTalk_6 : InB mX5_mayTalk 6 9 22 (.ifCond .ne) := ⟨by decide +kernel, rfl⟩
theorem iX5_mayTalk_9 : Ins mX5_mayTalk 9 10 1 (.aload_n 0) := ⟨by decide +kernel, rfl⟩
theorem iX5_mayTalk_10 : Ins mX5_mayTalk 10 11 1 (.iload_n 2) := ⟨by decide +kernel, rfl⟩
theorem iX5_mayTalk_11 : Ins mX5_mayTalk 11 12 1 (.iconst 2) := ⟨by decide +kernel, rfl⟩
theorem iX5_mayTalk_12 : Ins mX5_mayTalk 12 15 3 (.invokevirtual 122) := ⟨by decide +kernel, rfl⟩
theorem iX5_mayTalk_15 : InB mX5_mayTalk 15 18 22 (.ifCond .ne) := ⟨by decide +kernel, rfl⟩
theorem iX5_mayTalk_18 : Ins mX5_mayTalk 18 19 1 (.iconst 1) := ⟨by decide +kernel, rfl⟩
theorem iX5_mayTalk_19 : InB mX5_mayTalk 19 22 23 .goto := ⟨by decide +kernel, rfl⟩
theorem iX5_mayTalk_22 : Ins mX5_mayTalk 22 23 1 (.iconst 0) := ⟨by decide +kernel, rfl⟩
theorem iX5_mayTalk_23 : Ins mX5_mayTalk 23 24 1 (.ireturn) := ⟨by decide +kernel, rfl⟩
theorem iX5_talks_0 : Ins mX5_talks 0 1 1 (.iconst 0) := ⟨by decide +kernel, rfl⟩
theorem iX5_talks_1 : Ins mX5_talks 1 2 1 (.istore_n 3) := ⟨by decide +kernel, rfl⟩
theorem iX5_talks_2 : Ins mX5_talks 2 3 1 (.iconst 0) := ⟨by decide +kernel, rfl⟩
theorem iX5_talks_3 : Ins mX5_talks 3 5 2 (.istore 4) := ⟨by decide +kernel, rfl⟩
theorem iX5_talks_5 : Ins mX5_talks 5 7 2 (.iload 4) := ⟨by decide +kernel, rfl⟩
theorem iX5_talks_7 : Ins mX5_talks 7 8 1 (.aload_n 0) := ⟨by decide +kernel, rfl⟩
theorem iX5_talks_8 : Ins mX5_talks 8 11 3 (.getfield 9) := ⟨by decide +kernel, rfl⟩
theorem iX5_talks_11 : Ins mX5_talks 11 12 1 (.iconst 3) := ⟨by decide +kernel, rfl⟩
theorem iX5_talks_12 : Ins mX5_talks 12 13 1 (.iaload) := ⟨by decide +kernel, rfl⟩
theorem iX5_talks_13 : InB mX5_talks 13 16 106 (.if_icmp .ge) := ⟨by decide +kernel, rfl⟩
theorem iX5_talks_16 : Ins mX5_talks 16 17 1 (.aload_n 0) := ⟨by decide +kernel, rfl⟩
theorem iX5_talks_17 : Ins mX5_talks 17 19 2 (.iload 4) := ⟨by decide +kernel, rfl⟩
theorem iX5_talks_19 : Ins mX5_talks 19 20 1 (.iload_n 1) := ⟨by decide +kernel, rfl⟩
theorem iX5_talks_20 : Ins mX5_talks 20 23 3 (.invokevirtual 115) := ⟨by decide +kernel, rfl⟩
theorem iX5_talks_23 : InB mX5_talks 23 26 100 (.ifCond .eq) := ⟨by decide +kernel, rfl⟩
theorem iX5_talks_26 : Ins mX5_talks 26 27 1 (.aload_n 0) := ⟨by decide +kernel, rfl⟩
theorem iX5_talks_27 : Ins mX5_talks 27 29 2 (.iload 4) := ⟨by decide +kernel, rfl⟩
theorem iX5_talks_29 : Ins mX5_talks 29 30 1 (.iload_n 2) := ⟨by decide +kernel, rfl⟩
theorem iX5_talks_30 : Ins mX5_talks 30 33 3 (.invokevirtual 115) := ⟨by decide +kernel, rfl⟩
theorem iX5_talks_33 : InB mX5_talks 33 36 100 (.ifCond .ne) := ⟨by decide +kernel, rfl⟩
theorem iX5_talks_36 : Ins mX5_talks 36 37 1 (.aload_n 0) := ⟨by decide +kernel, rfl⟩
theorem iX5_talks_37 : Ins mX5_talks 37 38 1 (.iload_n 1) := ⟨by decide +kernel, rfl⟩
theorem iX5_talks_38 : Ins mX5_talks 38 39 1 (.iload_n 2) := ⟨by decide +kernel, rfl⟩
theorem iX5_talks_39 : Ins mX5_talks 39 41 2 (.iload 4) := ⟨by decide +kernel, rfl⟩
theorem iX5_talks_41 : Ins mX5_talks 41 44 3 (.invokevirtual 137) := ⟨by decide +kernel, rfl⟩
theorem iX5_talks_44 : InB mX5_talks 44 47 100 (.ifCond .eq) := ⟨by decide +kernel, rfl⟩
theorem iX5_talks_47 : Ins mX5_talks 47 48 1 (.aload_n 0) := ⟨by decide +kernel, rfl⟩
theorem iX5_talks_48 : Ins mX5_talks 48 49 1 (.iload_n 2) := ⟨by decide +kernel, rfl⟩
theorem iX5_talks_49 : Ins mX5_talks 49 51 2 (.iload 4) := ⟨by decide +kernel, rfl⟩
theorem iX5_talks_51 : Ins mX5_talks 51 54 3 (.invokevirtual 140) := ⟨by decide +kernel, rfl⟩
theorem iX5_talks_54 : InB mX5_talks 54 57 100 (.ifCond .eq) := ⟨by decide +kernel, rfl⟩
theorem iX5_talks_57 : Ins mX5_talks 57 58 1 (.aload_n 0) := ⟨by decide +kernel, rfl⟩
theorem iX5_talks_58 : Ins mX5_talks 58 61 3 (.getfield 9) := ⟨by decide +kernel, rfl⟩
theorem iX5_talks_61 : Ins mX5_talks 61 63 2 (.iload 4) := ⟨by decide +kernel, rfl⟩
theorem iX5_talks_63 : Ins mX5_talks 63 64 1 (.iconst 2) := ⟨by decide +kernel, rfl⟩
theorem iX5_talks_64 : Ins mX5_talks 64 67 3 (.invokestatic 88) := ⟨by decide +kernel, rfl⟩
theorem iX5_talks_67 : Ins mX5_talks 67 68 1 (.dup2) := ⟨by decide +kernel, rfl⟩
theorem iX5_talks_68 : Ins mX5_talks 68 69 1 (.iaload) := ⟨by decide +kernel, rfl⟩
theorem iX5_talks_69 : Ins mX5_talks 69 70 1 (.iconst 1) := ⟨by decide +kernel, rfl⟩
theorem iX5_talks_70 : Ins mX5_talks 70 71 1 (.iload_n 2) := ⟨by decide +kernel, rfl⟩
theorem iX5_talks_71 : Ins mX5_talks 71 72 1 (.ishl) := ⟨by decide +kernel, rfl⟩
theorem iX5_talks_72 : Ins mX5_talks 72 73 1 (.ior) := ⟨by decide +kernel, rfl⟩
theorem iX5_talks_73 : Ins mX5_talks 73 74 1 (.iastore) := ⟨by decide +kernel, rfl⟩
theorem iX5_talks_74 : Ins mX5_talks 74 75 1 (.aload_n 0) := ⟨by decide +kernel, rfl⟩
theorem iX5_talks_75 : Ins mX5_talks 75 78 3 (.getfield 9) := ⟨by decide +kernel, rfl⟩
theorem iX5_talks_78 : Ins mX5_talks 78 80 2 (.iload 4) := ⟨by decide +kernel, rfl⟩
theorem iX5_talks_80 : Ins mX5_talks 80 81 1 (.iconst 3) := ⟨by decide +kernel, rfl⟩
theorem iX5_talks_81 : Ins mX5_talks 81 82 1 (.iload_n 2) := ⟨by decide +kernel, rfl⟩
theorem iX5_talks_82 : Ins mX5_talks 82 83 1 (.iadd) := ⟨by decide +kernel, rfl⟩
theorem iX5_talks_83 : Ins mX5_talks 83 86 3 (.invokestatic 88) := ⟨by decide +kernel, rfl⟩
theorem iX5_talks_86 : Ins mX5_talks 86 87 1 (.aload_n 0) := ⟨by decide +kernel, rfl⟩
theorem iX5_talks_87 : Ins mX5_talks 87 88 1 (.iload_n 2) := ⟨by decide +kernel, rfl⟩
theorem iX5_talks_88 : Ins mX5_talks 88 89 1 (.iload_n 1) := ⟨by decide +kernel, rfl⟩
theorem iX5_talks_89 : Ins mX5_talks 89 92 3 (.invokevirtual 143) := ⟨by decide +kernel, rfl⟩
theorem iX5_talks_92 : Ins mX5_talks 92 93 1 (.iastore) := ⟨by decide +kernel, rfl⟩
theorem iX5_talks_93 : Ins mX5_talks 93 94 1 (.iload_n 3) := ⟨by decide +kernel, rfl⟩
theorem iX5_talks_94 : Ins mX5_talks 94 95 1 (.iconst 1) := ⟨by decide +kernel, rfl⟩
theorem iX5_talks_95 : Ins mX5_talks 95 97 2 (.iload 4) := ⟨by decide +kernel, rfl⟩
theorem iX5_talks_97 : Ins mX5_talks 97 98 1 (.ishl) := ⟨by decide +kernel, rfl⟩
theorem iX5_talks_98 : Ins mX5_talks 98 99 1 (.ior) := ⟨by decide +kernel, rfl⟩
theorem iX5_talks_99 : Ins mX5_talks 99 100 1 (.istore_n 3) := ⟨by decide +kernel, rfl⟩
theorem iX5_talks_100 : Ins mX5_talks 100 103 3 (.iinc 4 1) := ⟨by decide +kernel, rfl⟩
theorem iX5_talks_103 : InB mX5_talks 103 106 5 .goto := ⟨by decide +kernel, rfl⟩
theorem iX5_talks_106 : Ins mX5_talks 106 107 1 (.iload_n 3) := ⟨by decide +kernel, rfl⟩
theorem iX5_talks_107 : Ins mX5_talks 107 108 1 (.ireturn) := ⟨by decide +kernel, rfl⟩
theorem iX5_talk_0 : Ins mX5_talk 0 1 1 (.aload_n 0) := ⟨by decide +kernel, rfl⟩
theorem iX5_talk_1 : Ins mX5_talk 1 2 1 (.iload_n 1) := ⟨by decide +kernel, rfl⟩
theorem iX5_talk_2 : Ins mX5_talk 2 5 3 (.invokevirtual 105) := ⟨by decide +kernel, rfl⟩
theorem iX5_talk_5 : InB mX5_talk 5 8 21 (.ifCond .eq) := ⟨by decide +kernel, rfl⟩
theorem iX5_talk_8 : Ins mX5_talk 8 9 1 (.aload_n 0) := ⟨by decide +kernel, rfl⟩
theorem iX5_talk_9 : Ins mX5_talk 9 10 1 (.iload_n 2) := ⟨by decide +kernel, rfl⟩
theorem iX5_talk_10 : Ins mX5_talk 10 13 3 (.invokevirtual 105) := ⟨by decide +kernel, rfl⟩
theorem iX5_talk_13 : InB mX5_talk 13 16 21 (.ifCond .eq) := ⟨by decide +kernel, rfl⟩
theorem iX5_talk_16 : Ins mX5_talk 16 17 1 (.iload_n 1) := ⟨by decide +kernel, rfl⟩
theorem iX5_talk_17 : Ins mX5_talk 17 18 1 (.iload_n 2) := ⟨by decide +kernel, rfl⟩
theorem iX5_talk_18 : InB mX5_talk 18 21 28 (.if_icmp .ne) := ⟨by decide +kernel, rfl⟩
theorem iX5_talk_21 : Ins mX5_talk 21 22 1 (.aload_n 0) := ⟨by decide +kernel, rfl⟩
theorem iX5_talk_22 : Ins mX5_talk 22 24 2 (.ldc 60) := ⟨by decide +kernel, rfl⟩
theorem iX5_talk_24 : Ins mX5_talk 24 27 3 (.invokevirtual 66) := ⟨by decide +kernel, rfl⟩
theorem iX5_talk_27 : Ins mX5_talk 27 28 1 (.ireturn) := ⟨by decide +kernel, rfl⟩
theorem iX5_talk_28 : Ins mX5_talk 28 29 1 (.aload_n 0) := ⟨by decide +kernel, rfl⟩
theorem iX5_talk_29 : Ins mX5_talk 29 30 1 (.iload_n 1) := ⟨by decide +kernel, rfl⟩
theorem iX5_talk_30 : Ins mX5_talk 30 31 1 (.iload_n 2) := ⟨by decide +kernel, rfl⟩
theorem iX5_talk_31 : Ins mX5_talk 31 34 3 (.invokevirtual 146) := ⟨by decide +kernel, rfl⟩
theorem iX5_talk_34 : InB mX5_talk 34 37 46 (.ifCond .eq) := ⟨by decide +kernel, rfl⟩
theorem iX5_talk_37 : Ins mX5_talk 37 38 1 (.aload_n 0) := ⟨by decide +kernel, rfl⟩
theorem iX5_talk_38 : Ins mX5_talk 38 39 1 (.iload_n 1) := ⟨by decide +kernel, rfl⟩
theorem iX5_talk_39 : Ins mX5_talk 39 40 1 (.iload_n 2) := ⟨by decide +kernel, rfl⟩
theorem iX5_talk_40 : Ins mX5_talk 40 43 3 (.invokevirtual 149) := ⟨by decide +kernel, rfl⟩
theorem iX5_talk_43 : InB mX5_talk 43 46 52 .goto := ⟨by decide +kernel, rfl⟩
theorem iX5_talk_46 : Ins mX5_talk 46 47 1 (.aload_n 0) := ⟨by decide +kernel, rfl⟩
theorem iX5_talk_47 : Ins mX5_talk 47 49 2 (.ldc 152) := ⟨by decide +kernel, rfl⟩
theorem iX5_talk_49 : Ins mX5_talk 49 52 3 (.invokevirtual 66) := ⟨by decide +kernel, rfl⟩
theorem iX5_talk_52 : Ins mX5_talk 52 53 1 (.ireturn) := ⟨by decide +kernel, rfl⟩
theorem iX5_more_0 : Ins mX5_more 0 1 1 (.aload_n 0) := ⟨by decide +kernel, rfl⟩
theorem iX5_more_1 : Ins mX5_more 1 4 3 (.getfield 9) := ⟨by decide +kernel, rfl⟩
theorem iX5_more_4 : Ins mX5_more 4 5 1 (.iload_n 1) := ⟨by decide +kernel, rfl⟩
theorem iX5_more_5 : Ins mX5_more 5 6 1 (.iload_n 3) := ⟨by decide +kernel, rfl⟩
theorem iX5_more_6 : Ins mX5_more 6 7 1 (.aload_n 0) := ⟨by decide +kernel, rfl⟩
theorem iX5_more_7 : Ins mX5_more 7 10 3 (.getfield 9) := ⟨by decide +kernel, rfl⟩
theorem iX5_more_10 : Ins mX5_more 10 11 1 (.iload_n 1) := ⟨by decide +kernel, rfl⟩
theorem iX5_more_11 : Ins mX5_more 11 12 1 (.iaload) := ⟨by decide +kernel, rfl⟩
theorem iX5_more_12 : Ins mX5_more 12 13 1 (.iload_n 2) := ⟨by decide +kernel, rfl⟩
theorem iX5_more_13 : Ins mX5_more 13 14 1 (.iadd) := ⟨by decide +kernel, rfl⟩
theorem iX5_more_14 : Ins mX5_more 14 17 3 (.invokestatic 153) := ⟨by decide +kernel, rfl⟩
theorem iX5_more_17 : Ins mX5_more 17 18 1 (.iastore) := ⟨by decide +kernel, rfl⟩
theorem iX5_more_18 : Ins mX5_more 18 19 1 (.return_) := ⟨by decide +kernel, rfl⟩
theorem iX5_greatest_0 : Ins mX5_greatest 0 2 2 (.bipush 7) := ⟨by decide +kernel, rfl⟩
theorem iX5_greatest_2 : Ins mX5_greatest 2 3 1 (.istore_n 1) := ⟨by decide +kernel, rfl⟩
theorem iX5_greatest_3 : Ins mX5_greatest 3 4 1 (.iload_n 1) := ⟨by decide +kernel, rfl⟩
theorem iX5_greatest_4 : InB mX5_greatest 4 7 21 (.ifCond .lt) := ⟨by decide +kernel, rfl⟩
theorem iX5_greatest_7 : Ins mX5_greatest 7 8 1 (.iload_n 0) := ⟨by decide +kernel, rfl⟩
theorem iX5_greatest_8 : Ins mX5_greatest 8 9 1 (.iload_n 1) := ⟨by decide +kernel, rfl⟩
theorem iX5_greatest_9 : Ins mX5_greatest 9 10 1 (.ishr) := ⟨by decide +kernel, rfl⟩
theorem iX5_greatest_10 : Ins mX5_greatest 10 11 1 (.iconst 1) := ⟨by decide +kernel, rfl⟩
theorem iX5_greatest_11 : Ins mX5_greatest 11 12 1 (.iand) := ⟨by decide +kernel, rfl⟩
theorem iX5_greatest_12 : InB mX5_greatest 12 15 21 (.ifCond .ne) := ⟨by decide +kernel, rfl⟩
theorem iX5_greatest_15 : Ins mX5_greatest 15 18 3 (.iinc 1 (-1)) := ⟨by decide +kernel, rfl⟩
theorem iX5_greatest_18 : InB mX5_greatest 18 21 3 .goto := ⟨by decide +kernel, rfl⟩
theorem iX5_greatest_21 : Ins mX5_greatest 21 22 1 (.iload_n 1) := ⟨by decide +kernel, rfl⟩
theorem iX5_greatest_22 : Ins mX5_greatest 22 23 1 (.ireturn) := ⟨by decide +kernel, rfl⟩
theorem iX5_theNobody_0 : Ins mX5_theNobody 0 1 1 (.iconst (-1)) := ⟨by decide +kernel, rfl⟩
theorem iX5_theNobody_1 : Ins mX5_theNobody 1 2 1 (.istore_n 1) := ⟨by decide +kernel, rfl⟩
theorem iX5_theNobody_2 : Ins mX5_theNobody 2 3 1 (.aload_n 0) := ⟨by decide +kernel, rfl⟩
theorem iX5_theNobody_3 : Ins mX5_theNobody 3 6 3 (.getfield 9) := ⟨by decide +kernel, rfl⟩
theorem iX5_theNobody_6 : Ins mX5_theNobody 6 7 1 (.iconst 1) := ⟨by decide +kernel, rfl⟩
theorem iX5_theNobody_7 : Ins mX5_theNobody 7 8 1 (.iaload) := ⟨by decide +kernel, rfl⟩
theorem iX5_theNobody_8 : Ins mX5_theNobody 8 9 1 (.iconst 1) := ⟨by decide +kernel, rfl⟩
theorem iX5_theNobody_9 : Ins mX5_theNobody 9 10 1 (.isub) := ⟨by decide +kernel, rfl⟩
theorem iX5_theNobody_10 : Ins mX5_theNobody 10 11 1 (.istore_n 2) := ⟨by decide +kernel, rfl⟩
theorem iX5_theNobody_11 : Ins mX5_theNobody 11 12 1 (.iload_n 2) := ⟨by decide +kernel, rfl⟩
theorem iX5_theNobody_12 : InB mX5_theNobody 12 15 37 (.ifCond .lt) := ⟨by decide +kernel, rfl⟩
theorem iX5_theNobody_15 : Ins mX5_theNobody 15 16 1 (.aload_n 0) := ⟨by decide +kernel, rfl⟩
theorem iX5_theNobody_16 : Ins mX5_theNobody 16 17 1 (.iload_n 2) := ⟨by decide +kernel, rfl⟩
theorem iX5_theNobody_17 : Ins mX5_theNobody 17 18 1 (.iconst 0) := ⟨by decide +kernel, rfl⟩
theorem iX5_theNobody_18 : Ins mX5_theNobody 18 21 3 (.invokevirtual 122) := ⟨by decide +kernel, rfl⟩
theorem iX5_theNobody_21 : Ins mX5_theNobody 21 22 1 (.iconst 4) := ⟨by decide +kernel, rfl⟩
theorem iX5_theNobody_22 : InB mX5_theNobody 22 25 29 (.if_icmp .ne) := ⟨by decide +kernel, rfl⟩
theorem iX5_theNobody_25 : Ins mX5_theNobody 25 26 1 (.iload_n 2) := ⟨by decide +kernel, rfl⟩
theorem iX5_theNobody_26 : InB mX5_theNobody 26 29 30 .goto := ⟨by decide +kernel, rfl⟩
theorem iX5_theNobody_29 : Ins mX5_theNobody 29 30 1 (.iload_n 1) := ⟨by decide +kernel, rfl⟩
theorem iX5_theNobody_30 : Ins mX5_theNobody 30 31 1 (.istore_n 1) := ⟨by decide +kernel, rfl⟩
theorem iX5_theNobody_31 : Ins mX5_theNobody 31 34 3 (.iinc 2 (-1)) := ⟨by decide +kernel, rfl⟩
theorem iX5_theNobody_34 : InB mX5_theNobody 34 37 11 .goto := ⟨by decide +kernel, rfl⟩
theorem iX5_theNobody_37 : Ins mX5_theNobody 37 38 1 (.iload_n 1) := ⟨by decide +kernel, rfl⟩
theorem iX5_theNobody_38 : Ins mX5_theNobody 38 39 1 (.ireturn) := ⟨by decide +kernel, rfl⟩
theorem iX5_trial_0 : Ins mX5_trial 0 1 1 (.aload_n 0) := ⟨by decide +kernel, rfl⟩
theorem iX5_trial_1 : Ins mX5_trial 1 2 1 (.iload_n 1) := ⟨by decide +kernel, rfl⟩
theorem iX5_trial_2 : Ins mX5_trial 2 3 1 (.iconst 2) := ⟨by decide +kernel, rfl⟩
theorem iX5_trial_3 : Ins mX5_trial 3 6 3 (.invokevirtual 112) := ⟨by decide +kernel, rfl⟩
theorem iX5_trial_6 : Ins mX5_trial 6 9 3 (.invokestatic 158) := ⟨by decide +kernel, rfl⟩
theorem iX5_trial_9 : Ins mX5_trial 9 10 1 (.istore_n 2) := ⟨by decide +kernel, rfl⟩
theorem iX5_trial_10 : Ins mX5_trial 10 11 1 (.iload_n 2) := ⟨by decide +kernel, rfl⟩
theorem iX5_trial_11 : InB mX5_trial 11 14 75 (.ifCond .lt) := ⟨by decide +kernel, rfl⟩
theorem iX5_trial_14 : Ins mX5_trial 14 15 1 (.aload_n 0) := ⟨by decide +kernel, rfl⟩
theorem iX5_trial_15 : Ins mX5_trial 15 16 1 (.iload_n 1) := ⟨by decide +kernel, rfl⟩
theorem iX5_trial_16 : Ins mX5_trial 16 17 1 (.iload_n 2) := ⟨by decide +kernel, rfl⟩
theorem iX5_trial_17 : Ins mX5_trial 17 20 3 (.invokevirtual 134) := ⟨by decide +kernel, rfl⟩
theorem iX5_trial_20 : Ins mX5_trial 20 21 1 (.istore_n 3) := ⟨by decide +kernel, rfl⟩
theorem iX5_trial_21 : Ins mX5_trial 21 22 1 (.iload_n 3) := ⟨by decide +kernel, rfl⟩
theorem iX5_trial_22 : Ins mX5_trial 22 24 2 (.bipush 8) := ⟨by decide +kernel, rfl⟩
theorem iX5_trial_24 : InB mX5_trial 24 27 34 (.if_icmp .ne) := ⟨by decide +kernel, rfl⟩
theorem iX5_trial_27 : Ins mX5_trial 27 28 1 (.aload_n 0) := ⟨by decide +kernel, rfl⟩
theorem iX5_trial_28 : Ins mX5_trial 28 31 3 (.invokevirtual 161) := ⟨by decide +kernel, rfl⟩
theorem iX5_trial_31 : InB mX5_trial 31 34 35 .goto := ⟨by decide +kernel, rfl⟩
theorem iX5_trial_34 : Ins mX5_trial 34 35 1 (.iload_n 3) := ⟨by decide +kernel, rfl⟩
theorem iX5_trial_35 : Ins mX5_trial 35 37 2 (.istore 4) := ⟨by decide +kernel, rfl⟩
theorem iX5_trial_37 : Ins mX5_trial 37 39 2 (.iload 4) := ⟨by decide +kernel, rfl⟩
theorem iX5_trial_39 : InB mX5_trial 39 42 75 (.ifCond .lt) := ⟨by decide +kernel, rfl⟩
theorem iX5_trial_42 : Ins mX5_trial 42 43 1 (.aload_n 0) := ⟨by decide +kernel, rfl⟩
theorem iX5_trial_43 : Ins mX5_trial 43 45 2 (.iload 4) := ⟨by decide +kernel, rfl⟩
theorem iX5_trial_45 : Ins mX5_trial 45 46 1 (.iconst 3) := ⟨by decide +kernel, rfl⟩
theorem iX5_trial_46 : Ins mX5_trial 46 49 3 (.invokestatic 85) := ⟨by decide +kernel, rfl⟩
theorem iX5_trial_49 : Ins mX5_trial 49 50 1 (.iconst 1) := ⟨by decide +kernel, rfl⟩
theorem iX5_trial_50 : Ins mX5_trial 50 53 3 (.sipush 9999) := ⟨by decide +kernel, rfl⟩
theorem iX5_trial_53 : Ins mX5_trial 53 56 3 (.invokevirtual 165) := ⟨by decide +kernel, rfl⟩
theorem iX5_trial_56 : Ins mX5_trial 56 57 1 (.aload_n 0) := ⟨by decide +kernel, rfl⟩
theorem iX5_trial_57 : Ins mX5_trial 57 58 1 (.iconst 4) := ⟨by decide +kernel, rfl⟩
theorem iX5_trial_58 : Ins mX5_trial 58 59 1 (.aload_n 0) := ⟨by decide +kernel, rfl⟩
theorem iX5_trial_59 : Ins mX5_trial 59 61 2 (.iload 4) := ⟨by decide +kernel, rfl⟩
theorem iX5_trial_61 : Ins mX5_trial 61 62 1 (.aload_n 0) := ⟨by decide +kernel, rfl⟩
theorem iX5_trial_62 : Ins mX5_trial 62 63 1 (.iload_n 1) := ⟨by decide +kernel, rfl⟩
theorem iX5_trial_63 : Ins mX5_trial 63 64 1 (.iconst 1) := ⟨by decide +kernel, rfl⟩
theorem iX5_trial_64 : Ins mX5_trial 64 67 3 (.invokevirtual 112) := ⟨by decide +kernel, rfl⟩
theorem iX5_trial_67 : Ins mX5_trial 67 70 3 (.invokevirtual 169) := ⟨by decide +kernel, rfl⟩
theorem iX5_trial_70 : Ins mX5_trial 70 72 2 (.ldc 172) := ⟨by decide +kernel, rfl⟩
theorem iX5_trial_72 : Ins mX5_trial 72 75 3 (.invokevirtual 165) := ⟨by decide +kernel, rfl⟩
theorem iX5_trial_75 : Ins mX5_trial 75 76 1 (.return_) := ⟨by decide +kernel, rfl⟩
theorem iX5_day_0 : Ins mX5_day 0 1 1 (.aload_n 0) := ⟨by decide +kernel, rfl⟩
theorem iX5_day_1 : Ins mX5_day 1 4 3 (.getfield 9) := ⟨by decide +kernel, rfl⟩
theorem iX5_day_4 : Ins mX5_day 4 5 1 (.aload_n 0) := ⟨by decide +kernel, rfl⟩
theorem iX5_day_5 : Ins mX5_day 5 8 3 (.invokevirtual 173) := ⟨by decide +kernel, rfl⟩
theorem iX5_day_8 : Ins mX5_day 8 9 1 (.iaload) := ⟨by decide +kernel, rfl⟩
theorem iX5_day_9 : Ins mX5_day 9 11 2 (.bipush 10) := ⟨by decide +kernel, rfl⟩
theorem iX5_day_11 : Ins mX5_day 11 12 1 (.idiv) := ⟨by decide +kernel, rfl⟩
theorem iX5_day_12 : Ins mX5_day 12 13 1 (.istore_n 1) := ⟨by decide +kernel, rfl⟩
theorem iX5_day_13 : Ins mX5_day 13 14 1 (.aload_n 0) := ⟨by decide +kernel, rfl⟩
theorem iX5_day_14 : Ins mX5_day 14 17 3 (.getfield 9) := ⟨by decide +kernel, rfl⟩
theorem iX5_day_17 : Ins mX5_day 17 18 1 (.aload_n 0) := ⟨by decide +kernel, rfl⟩
theorem iX5_day_18 : Ins mX5_day 18 21 3 (.invokevirtual 173) := ⟨by decide +kernel, rfl⟩
theorem iX5_day_21 : Ins mX5_day 21 22 1 (.iaload) := ⟨by decide +kernel, rfl⟩
theorem iX5_day_22 : Ins mX5_day 22 24 2 (.bipush 10) := ⟨by decide +kernel, rfl⟩
theorem iX5_day_24 : Ins mX5_day 24 25 1 (.irem) := ⟨by decide +kernel, rfl⟩
theorem iX5_day_25 : Ins mX5_day 25 26 1 (.istore_n 2) := ⟨by decide +kernel, rfl⟩
theorem iX5_day_26 : Ins mX5_day 26 27 1 (.aload_n 0) := ⟨by decide +kernel, rfl⟩
theorem iX5_day_27 : Ins mX5_day 27 28 1 (.iload_n 1) := ⟨by decide +kernel, rfl⟩
theorem iX5_day_28 : Ins mX5_day 28 31 3 (.invokevirtual 105) := ⟨by decide +kernel, rfl⟩
theorem iX5_day_31 : InB mX5_day 31 34 63 (.ifCond .eq) := ⟨by decide +kernel, rfl⟩
theorem iX5_day_34 : Ins mX5_day 34 35 1 (.aload_n 0) := ⟨by decide +kernel, rfl⟩
theorem iX5_day_35 : Ins mX5_day 35 36 1 (.iload_n 2) := ⟨by decide +kernel, rfl⟩
theorem iX5_day_36 : Ins mX5_day 36 39 3 (.invokevirtual 105) := ⟨by decide +kernel, rfl⟩
theorem iX5_day_39 : InB mX5_day 39 42 63 (.ifCond .eq) := ⟨by decide +kernel, rfl⟩
theorem iX5_day_42 : Ins mX5_day 42 43 1 (.iload_n 1) := ⟨by decide +kernel, rfl⟩
theorem iX5_day_43 : Ins mX5_day 43 44 1 (.iload_n 2) := ⟨by decide +kernel, rfl⟩
theorem iX5_day_44 : InB mX5_day 44 47 63 (.if_icmp .eq) := ⟨by decide +kernel, rfl⟩
theorem iX5_day_47 : Ins mX5_day 47 48 1 (.aload_n 0) := ⟨by decide +kernel, rfl⟩
theorem iX5_day_48 : Ins mX5_day 48 49 1 (.iload_n 1) := ⟨by decide +kernel, rfl⟩
theorem iX5_day_49 : Ins mX5_day 49 50 1 (.iload_n 2) := ⟨by decide +kernel, rfl⟩
theorem iX5_day_50 : Ins mX5_day 50 53 3 (.invokevirtual 146) := ⟨by decide +kernel, rfl⟩
theorem iX5_day_53 : InB mX5_day 53 56 63 (.ifCond .eq) := ⟨by decide +kernel, rfl⟩
theorem iX5_day_56 : Ins mX5_day 56 57 1 (.aload_n 0) := ⟨by decide +kernel, rfl⟩
theorem iX5_day_57 : Ins mX5_day 57 58 1 (.iload_n 1) := ⟨by decide +kernel, rfl⟩
theorem iX5_day_58 : Ins mX5_day 58 59 1 (.iload_n 2) := ⟨by decide +kernel, rfl⟩
theorem iX5_day_59 : Ins mX5_day 59 62 3 (.invokevirtual 149) := ⟨by decide +kernel, rfl⟩
theorem iX5_day_62 : Ins mX5_day 62 63 1 (.pop) := ⟨by decide +kernel, rfl⟩
theorem iX5_day_63 : Ins mX5_day 63 64 1 (.aload_n 0) := ⟨by decide +kernel, rfl⟩
theorem iX5_day_64 : Ins mX5_day 64 67 3 (.getfield 9) := ⟨by decide +kernel, rfl⟩
theorem iX5_day_67 : Ins mX5_day 67 68 1 (.iconst 0) := ⟨by decide +kernel, rfl⟩
theorem iX5_day_68 : Ins mX5_day 68 69 1 (.iaload) := ⟨by decide +kernel, rfl⟩
theorem iX5_day_69 : Ins mX5_day 69 71 2 (.bipush 6) := ⟨by decide +kernel, rfl⟩
theorem iX5_day_71 : Ins mX5_day 71 72 1 (.idiv) := ⟨by decide +kernel, rfl⟩
theorem iX5_day_72 : Ins mX5_day 72 74 2 (.bipush 6) := ⟨by decide +kernel, rfl⟩
theorem iX5_day_74 : Ins mX5_day 74 75 1 (.irem) := ⟨by decide +kernel, rfl⟩
theorem iX5_day_75 : Ins mX5_day 75 76 1 (.istore_n 3) := ⟨by decide +kernel, rfl⟩
theorem iX5_day_76 : Ins mX5_day 76 77 1 (.aload_n 0) := ⟨by decide +kernel, rfl⟩
theorem iX5_day_77 : Ins mX5_day 77 80 3 (.getfield 9) := ⟨by decide +kernel, rfl⟩
theorem iX5_day_80 : Ins mX5_day 80 81 1 (.iconst 0) := ⟨by decide +kernel, rfl⟩
theorem iX5_day_81 : Ins mX5_day 81 82 1 (.iaload) := ⟨by decide +kernel, rfl⟩
theorem iX5_day_82 : Ins mX5_day 82 84 2 (.bipush 6) := ⟨by decide +kernel, rfl⟩
theorem iX5_day_84 : Ins mX5_day 84 85 1 (.irem) := ⟨by decide +kernel, rfl⟩
theorem iX5_day_85 : Ins mX5_day 85 86 1 (.iconst 5) := ⟨by decide +kernel, rfl⟩
theorem iX5_day_86 : InB mX5_day 86 89 102 (.if_icmp .ne) := ⟨by decide +kernel, rfl⟩
theorem iX5_day_89 : Ins mX5_day 89 90 1 (.aload_n 0) := ⟨by decide +kernel, rfl⟩
theorem iX5_day_90 : Ins mX5_day 90 91 1 (.iload_n 3) := ⟨by decide +kernel, rfl⟩
theorem iX5_day_91 : Ins mX5_day 91 94 3 (.invokevirtual 131) := ⟨by decide +kernel, rfl⟩
theorem iX5_day_94 : InB mX5_day 94 97 102 (.ifCond .eq) := ⟨by decide +kernel, rfl⟩
theorem iX5_day_97 : Ins mX5_day 97 98 1 (.aload_n 0) := ⟨by decide +kernel, rfl⟩
theorem iX5_day_98 : Ins mX5_day 98 99 1 (.iload_n 3) := ⟨by decide +kernel, rfl⟩
theorem iX5_day_99 : Ins mX5_day 99 102 3 (.invokevirtual 176) := ⟨by decide +kernel, rfl⟩
theorem iX5_day_102 : Ins mX5_day 102 103 1 (.aload_n 0) := ⟨by decide +kernel, rfl⟩
theorem iX5_day_103 : Ins mX5_day 103 104 1 (.iconst 0) := ⟨by decide +kernel, rfl⟩
theorem iX5_day_104 : Ins mX5_day 104 105 1 (.iconst 1) := ⟨by decide +kernel, rfl⟩
theorem iX5_day_105 : Ins mX5_day 105 107 2 (.ldc 172) := ⟨by decide +kernel, rfl⟩
theorem iX5_day_107 : Ins mX5_day 107 110 3 (.invokevirtual 165) := ⟨by decide +kernel, rfl⟩
theorem iX5_day_110 : Ins mX5_day 110 111 1 (.return_) := ⟨by decide +kernel, rfl⟩
theorem iX5_daysGo_0 : Ins mX5_daysGo 0 1 1 (.iconst 0) := ⟨by decide +kernel, rfl⟩
theorem iX5_daysGo_1 : Ins mX5_daysGo 1 2 1 (.istore_n 2) := ⟨by decide +kernel, rfl⟩
theorem iX5_daysGo_2 : Ins mX5_daysGo 2 3 1 (.iload_n 2) := ⟨by decide +kernel, rfl⟩
theorem iX5_daysGo_3 : Ins mX5_daysGo 3 4 1 (.iload_n 1) := ⟨by decide +kernel, rfl⟩
theorem iX5_daysGo_4 : InB mX5_daysGo 4 7 17 (.if_icmp .ge) := ⟨by decide +kernel, rfl⟩
theorem iX5_daysGo_7 : Ins mX5_daysGo 7 8 1 (.aload_n 0) := ⟨by decide +kernel, rfl⟩
theorem iX5_daysGo_8 : Ins mX5_daysGo 8 11 3 (.invokevirtual 180) := ⟨by decide +kernel, rfl⟩
theorem iX5_daysGo_11 : Ins mX5_daysGo 11 14 3 (.iinc 2 1) := ⟨by decide +kernel, rfl⟩
theorem iX5_daysGo_14 : InB mX5_daysGo 14 17 2 .goto := ⟨by decide +kernel, rfl⟩
theorem iX5_daysGo_17 : Ins mX5_daysGo 17 18 1 (.return_) := ⟨by decide +kernel, rfl⟩
theorem iX5_go_0 : Ins mX5_go 0 1 1 (.iload_n 1) := ⟨by decide +kernel, rfl⟩
theorem iX5_go_1 : Ins mX5_go 1 2 1 (.iconst 1) := ⟨by decide +kernel, rfl⟩
theorem iX5_go_2 : Ins mX5_go 2 4 2 (.bipush 60) := ⟨by decide +kernel, rfl⟩
theorem iX5_go_4 : Ins mX5_go 4 7 3 (.invokestatic 70) := ⟨by decide +kernel, rfl⟩
theorem iX5_go_7 : InB mX5_go 7 10 17 (.ifCond .ne) := ⟨by decide +kernel, rfl⟩
theorem iX5_go_10 : Ins mX5_go 10 11 1 (.aload_n 0) := ⟨by decide +kernel, rfl⟩
theorem iX5_go_11 : Ins mX5_go 11 13 2 (.ldc 60) := ⟨by decide +kernel, rfl⟩
theorem iX5_go_13 : Ins mX5_go 13 16 3 (.invokevirtual 66) := ⟨by decide +kernel, rfl⟩
theorem iX5_go_16 : Ins mX5_go 16 17 1 (.ireturn) := ⟨by decide +kernel, rfl⟩
theorem iX5_go_17 : Ins mX5_go 17 18 1 (.aload_n 0) := ⟨by decide +kernel, rfl⟩
theorem iX5_go_18 : Ins mX5_go 18 21 3 (.getfield 9) := ⟨by decide +kernel, rfl⟩
theorem iX5_go_21 : Ins mX5_go 21 22 1 (.iconst 0) := ⟨by decide +kernel, rfl⟩
theorem iX5_go_22 : Ins mX5_go 22 23 1 (.iaload) := ⟨by decide +kernel, rfl⟩
theorem iX5_go_23 : Ins mX5_go 23 24 1 (.iload_n 1) := ⟨by decide +kernel, rfl⟩
theorem iX5_go_24 : Ins mX5_go 24 25 1 (.iadd) := ⟨by decide +kernel, rfl⟩
theorem iX5_go_25 : Ins mX5_go 25 27 2 (.ldc 172) := ⟨by decide +kernel, rfl⟩
theorem iX5_go_27 : InB mX5_go 27 30 37 (.if_icmp .le) := ⟨by decide +kernel, rfl⟩
theorem iX5_go_30 : Ins mX5_go 30 31 1 (.aload_n 0) := ⟨by decide +kernel, rfl⟩
theorem iX5_go_31 : Ins mX5_go 31 33 2 (.ldc 152) := ⟨by decide +kernel, rfl⟩
theorem iX5_go_33 : Ins mX5_go 33 36 3 (.invokevirtual 66) := ⟨by decide +kernel, rfl⟩
theorem iX5_go_36 : Ins mX5_go 36 37 1 (.ireturn) := ⟨by decide +kernel, rfl⟩
theorem iX5_go_37 : Ins mX5_go 37 38 1 (.aload_n 0) := ⟨by decide +kernel, rfl⟩
theorem iX5_go_38 : Ins mX5_go 38 39 1 (.iload_n 1) := ⟨by decide +kernel, rfl⟩
theorem iX5_go_39 : Ins mX5_go 39 42 3 (.invokevirtual 183) := ⟨by decide +kernel, rfl⟩
theorem iX5_go_42 : Ins mX5_go 42 43 1 (.aload_n 0) := ⟨by decide +kernel, rfl⟩
theorem iX5_go_43 : Ins mX5_go 43 46 3 (.getfield 9) := ⟨by decide +kernel, rfl⟩
theorem iX5_go_46 : Ins mX5_go 46 47 1 (.iconst 4) := ⟨by decide +kernel, rfl⟩
theorem iX5_go_47 : Ins mX5_go 47 48 1 (.iaload) := ⟨by decide +kernel, rfl⟩
theorem iX5_go_48 : Ins mX5_go 48 49 1 (.ireturn) := ⟨by decide +kernel, rfl⟩
theorem iX5_heardInAll_0 : Ins mX5_heardInAll 0 1 1 (.iconst 0) := ⟨by decide +kernel, rfl⟩
theorem iX5_heardInAll_1 : Ins mX5_heardInAll 1 2 1 (.istore_n 1) := ⟨by decide +kernel, rfl⟩
theorem iX5_heardInAll_2 : Ins mX5_heardInAll 2 3 1 (.iconst 0) := ⟨by decide +kernel, rfl⟩
theorem iX5_heardInAll_3 : Ins mX5_heardInAll 3 4 1 (.istore_n 2) := ⟨by decide +kernel, rfl⟩
theorem iX5_heardInAll_4 : Ins mX5_heardInAll 4 5 1 (.iload_n 2) := ⟨by decide +kernel, rfl⟩
theorem iX5_heardInAll_5 : Ins mX5_heardInAll 5 6 1 (.aload_n 0) := ⟨by decide +kernel, rfl⟩
theorem iX5_heardInAll_6 : Ins mX5_heardInAll 6 9 3 (.getfield 9) := ⟨by decide +kernel, rfl⟩
theorem iX5_heardInAll_9 : Ins mX5_heardInAll 9 10 1 (.iconst 3) := ⟨by decide +kernel, rfl⟩
theorem iX5_heardInAll_10 : Ins mX5_heardInAll 10 11 1 (.iaload) := ⟨by decide +kernel, rfl⟩
theorem iX5_heardInAll_11 : InB mX5_heardInAll 11 14 32 (.if_icmp .ge) := ⟨by decide +kernel, rfl⟩
theorem iX5_heardInAll_14 : Ins mX5_heardInAll 14 15 1 (.iload_n 1) := ⟨by decide +kernel, rfl⟩
theorem iX5_heardInAll_15 : Ins mX5_heardInAll 15 16 1 (.aload_n 0) := ⟨by decide +kernel, rfl⟩
theorem iX5_heardInAll_16 : Ins mX5_heardInAll 16 17 1 (.iload_n 2) := ⟨by decide +kernel, rfl⟩
theorem iX5_heardInAll_17 : Ins mX5_heardInAll 17 18 1 (.iconst 2) := ⟨by decide +kernel, rfl⟩
theorem iX5_heardInAll_18 : Ins mX5_heardInAll 18 21 3 (.invokevirtual 112) := ⟨by decide +kernel, rfl⟩
theorem iX5_heardInAll_21 : Ins mX5_heardInAll 21 24 3 (.invokestatic 186) := ⟨by decide +kernel, rfl⟩
theorem iX5_heardInAll_24 : Ins mX5_heardInAll 24 25 1 (.iadd) := ⟨by decide +kernel, rfl⟩
theorem iX5_heardInAll_25 : Ins mX5_heardInAll 25 26 1 (.istore_n 1) := ⟨by decide +kernel, rfl⟩
theorem iX5_heardInAll_26 : Ins mX5_heardInAll 26 29 3 (.iinc 2 1) := ⟨by decide +kernel, rfl⟩
theorem iX5_heardInAll_29 : InB mX5_heardInAll 29 32 4 .goto := ⟨by decide +kernel, rfl⟩
theorem iX5_heardInAll_32 : Ins mX5_heardInAll 32 33 1 (.iload_n 1) := ⟨by decide +kernel, rfl⟩
theorem iX5_heardInAll_33 : Ins mX5_heardInAll 33 34 1 (.ireturn) := ⟨by decide +kernel, rfl⟩
theorem iX5_allHeard_0 : Ins mX5_allHeard 0 1 1 (.aload_n 0) := ⟨by decide +kernel, rfl⟩
theorem iX5_allHeard_1 : Ins mX5_allHeard 1 2 1 (.iload_n 1) := ⟨by decide +kernel, rfl⟩
theorem iX5_allHeard_2 : Ins mX5_allHeard 2 3 1 (.iconst 2) := ⟨by decide +kernel, rfl⟩
theorem iX5_allHeard_3 : Ins mX5_allHeard 3 6 3 (.invokevirtual 112) := ⟨by decide +kernel, rfl⟩
theorem iX5_allHeard_6 : Ins mX5_allHeard 6 7 1 (.iconst 1) := ⟨by decide +kernel, rfl⟩
theorem iX5_allHeard_7 : Ins mX5_allHeard 7 8 1 (.aload_n 0) := ⟨by decide +kernel, rfl⟩
theorem iX5_allHeard_8 : Ins mX5_allHeard 8 11 3 (.getfield 9) := ⟨by decide +kernel, rfl⟩
theorem iX5_allHeard_11 : Ins mX5_allHeard 11 12 1 (.iconst 1) := ⟨by decide +kernel, rfl⟩
theorem iX5_allHeard_12 : Ins mX5_allHeard 12 13 1 (.iaload) := ⟨by decide +kernel, rfl⟩
theorem iX5_allHeard_13 : Ins mX5_allHeard 13 14 1 (.ishl) := ⟨by decide +kernel, rfl⟩
theorem iX5_allHeard_14 : Ins mX5_allHeard 14 15 1 (.iconst 1) := ⟨by decide +kernel, rfl⟩
theorem iX5_allHeard_15 : Ins mX5_allHeard 15 16 1 (.isub) := ⟨by decide +kernel, rfl⟩
theorem iX5_allHeard_16 : InB mX5_allHeard 16 19 23 (.if_icmp .ne) := ⟨by decide +kernel, rfl⟩
theorem iX5_allHeard_19 : Ins mX5_allHeard 19 20 1 (.iconst 1) := ⟨by decide +kernel, rfl⟩
theorem iX5_allHeard_20 : InB mX5_allHeard 20 23 24 .goto := ⟨by decide +kernel, rfl⟩
theorem iX5_allHeard_23 : Ins mX5_allHeard 23 24 1 (.iconst 0) := ⟨by decide +kernel, rfl⟩
theorem iX5_allHeard_24 : Ins mX5_allHeard 24 25 1 (.ireturn) := ⟨by decide +kernel, rfl⟩
theorem iX5_commonOnes_0 : Ins mX5_commonOnes 0 1 1 (.iconst 0) := ⟨by decide +kernel, rfl⟩
theorem iX5_commonOnes_1 : Ins mX5_commonOnes 1 2 1 (.istore_n 1) := ⟨by decide +kernel, rfl⟩
theorem iX5_commonOnes_2 : Ins mX5_commonOnes 2 3 1 (.iconst 0) := ⟨by decide +kernel, rfl⟩
theorem iX5_commonOnes_3 : Ins mX5_commonOnes 3 4 1 (.istore_n 2) := ⟨by decide +kernel, rfl⟩
theorem iX5_commonOnes_4 : Ins mX5_commonOnes 4 5 1 (.iload_n 2) := ⟨by decide +kernel, rfl⟩
theorem iX5_commonOnes_5 : Ins mX5_commonOnes 5 6 1 (.aload_n 0) := ⟨by decide +kernel, rfl⟩
theorem iX5_commonOnes_6 : Ins mX5_commonOnes 6 9 3 (.getfield 9) := ⟨by decide +kernel, rfl⟩
theorem iX5_commonOnes_9 : Ins mX5_commonOnes 9 10 1 (.iconst 3) := ⟨by decide +kernel, rfl⟩
theorem iX5_commonOnes_10 : Ins mX5_commonOnes 10 11 1 (.iaload) := ⟨by decide +kernel, rfl⟩
theorem iX5_commonOnes_11 : InB mX5_commonOnes 11 14 38 (.if_icmp .ge) := ⟨by decide +kernel, rfl⟩
theorem iX5_commonOnes_14 : Ins mX5_commonOnes 14 15 1 (.iload_n 1) := ⟨by decide +kernel, rfl⟩
theorem iX5_commonOnes_15 : Ins mX5_commonOnes 15 16 1 (.aload_n 0) := ⟨by decide +kernel, rfl⟩
theorem iX5_commonOnes_16 : Ins mX5_commonOnes 16 17 1 (.iload_n 2) := ⟨by decide +kernel, rfl⟩
theorem iX5_commonOnes_17 : Ins mX5_commonOnes 17 20 3 (.invokevirtual 189) := ⟨by decide +kernel, rfl⟩
theorem iX5_commonOnes_20 : InB mX5_commonOnes 20 23 29 (.ifCond .eq) := ⟨by decide +kernel, rfl⟩
theorem iX5_commonOnes_23 : Ins mX5_commonOnes 23 24 1 (.iconst 1) := ⟨by decide +kernel, rfl⟩
theorem iX5_commonOnes_24 : Ins mX5_commonOnes 24 25 1 (.iload_n 2) := ⟨by decide +kernel, rfl⟩
theorem iX5_commonOnes_25 : Ins mX5_commonOnes 25 26 1 (.ishl) := ⟨by decide +kernel, rfl⟩
theorem iX5_commonOnes_26 : InB mX5_commonOnes 26 29 30 .goto := ⟨by decide +kernel, rfl⟩
theorem iX5_commonOnes_29 : Ins mX5_commonOnes 29 30 1 (.iconst 0) := ⟨by decide +kernel, rfl⟩
theorem iX5_commonOnes_30 : Ins mX5_commonOnes 30 31 1 (.ior) := ⟨by decide +kernel, rfl⟩
theorem iX5_commonOnes_31 : Ins mX5_commonOnes 31 32 1 (.istore_n 1) := ⟨by decide +kernel, rfl⟩
theorem iX5_commonOnes_32 : Ins mX5_commonOnes 32 35 3 (.iinc 2 1) := ⟨by decide +kernel, rfl⟩
theorem iX5_commonOnes_35 : InB mX5_commonOnes 35 38 4 .goto := ⟨by decide +kernel, rfl⟩
theorem iX5_commonOnes_38 : Ins mX5_commonOnes 38 39 1 (.iload_n 1) := ⟨by decide +kernel, rfl⟩
theorem iX5_commonOnes_39 : Ins mX5_commonOnes 39 40 1 (.ireturn) := ⟨by decide +kernel, rfl⟩
theorem iX5_blamedInAll_0 : Ins mX5_blamedInAll 0 1 1 (.iconst 0) := ⟨by decide +kernel, rfl⟩
theorem iX5_blamedInAll_1 : Ins mX5_blamedInAll 1 2 1 (.istore_n 1) := ⟨by decide +kernel, rfl⟩
theorem iX5_blamedInAll_2 : Ins mX5_blamedInAll 2 3 1 (.iconst 0) := ⟨by decide +kernel, rfl⟩
theorem iX5_blamedInAll_3 : Ins mX5_blamedInAll 3 4 1 (.istore_n 2) := ⟨by decide +kernel, rfl⟩
theorem iX5_blamedInAll_4 : Ins mX5_blamedInAll 4 5 1 (.iload_n 2) := ⟨by decide +kernel, rfl⟩
theorem iX5_blamedInAll_5 : Ins mX5_blamedInAll 5 6 1 (.aload_n 0) := ⟨by decide +kernel, rfl⟩
theorem iX5_blamedInAll_6 : Ins mX5_blamedInAll 6 9 3 (.getfield 9) := ⟨by decide +kernel, rfl⟩
theorem iX5_blamedInAll_9 : Ins mX5_blamedInAll 9 10 1 (.iconst 1) := ⟨by decide +kernel, rfl⟩
theorem iX5_blamedInAll_10 : Ins mX5_blamedInAll 10 11 1 (.iaload) := ⟨by decide +kernel, rfl⟩
theorem iX5_blamedInAll_11 : InB mX5_blamedInAll 11 14 29 (.if_icmp .ge) := ⟨by decide +kernel, rfl⟩
theorem iX5_blamedInAll_14 : Ins mX5_blamedInAll 14 15 1 (.iload_n 1) := ⟨by decide +kernel, rfl⟩
theorem iX5_blamedInAll_15 : Ins mX5_blamedInAll 15 16 1 (.aload_n 0) := ⟨by decide +kernel, rfl⟩
theorem iX5_blamedInAll_16 : Ins mX5_blamedInAll 16 17 1 (.iload_n 2) := ⟨by decide +kernel, rfl⟩
theorem iX5_blamedInAll_17 : Ins mX5_blamedInAll 17 18 1 (.iconst 3) := ⟨by decide +kernel, rfl⟩
theorem iX5_blamedInAll_18 : Ins mX5_blamedInAll 18 21 3 (.invokevirtual 122) := ⟨by decide +kernel, rfl⟩
theorem iX5_blamedInAll_21 : Ins mX5_blamedInAll 21 22 1 (.iadd) := ⟨by decide +kernel, rfl⟩
theorem iX5_blamedInAll_22 : Ins mX5_blamedInAll 22 23 1 (.istore_n 1) := ⟨by decide +kernel, rfl⟩
theorem iX5_blamedInAll_23 : Ins mX5_blamedInAll 23 26 3 (.iinc 2 1) := ⟨by decide +kernel, rfl⟩
theorem iX5_blamedInAll_26 : InB mX5_blamedInAll 26 29 4 .goto := ⟨by decide +kernel, rfl⟩
theorem iX5_blamedInAll_29 : Ins mX5_blamedInAll 29 30 1 (.iload_n 1) := ⟨by decide +kernel, rfl⟩
theorem iX5_blamedInAll_30 : Ins mX5_blamedInAll 30 31 1 (.ireturn) := ⟨by decide +kernel, rfl⟩
theorem iX5_blamedMost_0 : Ins mX5_blamedMost 0 1 1 (.iconst (-1)) := ⟨by decide +kernel, rfl⟩
theorem iX5_blamedMost_1 : Ins mX5_blamedMost 1 2 1 (.istore_n 1) := ⟨by decide +kernel, rfl⟩
theorem iX5_blamedMost_2 : Ins mX5_blamedMost 2 3 1 (.iconst 0) := ⟨by decide +kernel, rfl⟩
theorem iX5_blamedMost_3 : Ins mX5_blamedMost 3 4 1 (.istore_n 2) := ⟨by decide +kernel, rfl⟩
theorem iX5_blamedMost_4 : Ins mX5_blamedMost 4 5 1 (.iload_n 2) := ⟨by decide +kernel, rfl⟩
theorem iX5_blamedMost_5 : Ins mX5_blamedMost 5 6 1 (.aload_n 0) := ⟨by decide +kernel, rfl⟩
theorem iX5_blamedMost_6 : Ins mX5_blamedMost 6 9 3 (.getfield 9) := ⟨by decide +kernel, rfl⟩
theorem iX5_blamedMost_9 : Ins mX5_blamedMost 9 10 1 (.iconst 1) := ⟨by decide +kernel, rfl⟩
theorem iX5_blamedMost_10 : Ins mX5_blamedMost 10 11 1 (.iaload) := ⟨by decide +kernel, rfl⟩
theorem iX5_blamedMost_11 : InB mX5_blamedMost 11 14 45 (.if_icmp .ge) := ⟨by decide +kernel, rfl⟩
theorem iX5_blamedMost_14 : Ins mX5_blamedMost 14 15 1 (.iload_n 1) := ⟨by decide +kernel, rfl⟩
theorem iX5_blamedMost_15 : InB mX5_blamedMost 15 18 33 (.ifCond .lt) := ⟨by decide +kernel, rfl⟩
theorem iX5_blamedMost_18 : Ins mX5_blamedMost 18 19 1 (.aload_n 0) := ⟨by decide +kernel, rfl⟩
theorem iX5_blamedMost_19 : Ins mX5_blamedMost 19 20 1 (.iload_n 2) := ⟨by decide +kernel, rfl⟩
theorem iX5_blamedMost_20 : Ins mX5_blamedMost 20 21 1 (.iconst 3) := ⟨by decide +kernel, rfl⟩
theorem iX5_blamedMost_21 : Ins mX5_blamedMost 21 24 3 (.invokevirtual 122) := ⟨by decide +kernel, rfl⟩
theorem iX5_blamedMost_24 : Ins mX5_blamedMost 24 25 1 (.aload_n 0) := ⟨by decide +kernel, rfl⟩
theorem iX5_blamedMost_25 : Ins mX5_blamedMost 25 26 1 (.iload_n 1) := ⟨by decide +kernel, rfl⟩
theorem iX5_blamedMost_26 : Ins mX5_blamedMost 26 27 1 (.iconst 3) := ⟨by decide +kernel, rfl⟩
theorem iX5_blamedMost_27 : Ins mX5_blamedMost 27 30 3 (.invokevirtual 122) := ⟨by decide +kernel, rfl⟩
theorem iX5_blamedMost_30 : InB mX5_blamedMost 30 33 37 (.if_icmp .le) := ⟨by decide +kernel, rfl⟩
theorem iX5_blamedMost_33 : Ins mX5_blamedMost 33 34 1 (.iload_n 2) := ⟨by decide +kernel, rfl⟩
theorem iX5_blamedMost_34 : InB mX5_blamedMost 34 37 38 .goto := ⟨by decide +kernel, rfl⟩
theorem iX5_blamedMost_37 : Ins mX5_blamedMost 37 38 1 (.iload_n 1) := ⟨by decide +kernel, rfl⟩
theorem iX5_blamedMost_38 : Ins mX5_blamedMost 38 39 1 (.istore_n 1) := ⟨by decide +kernel, rfl⟩
theorem iX5_blamedMost_39 : Ins mX5_blamedMost 39 42 3 (.iinc 2 1) := ⟨by decide +kernel, rfl⟩
theorem iX5_blamedMost_42 : InB mX5_blamedMost 42 45 4 .goto := ⟨by decide +kernel, rfl⟩
theorem iX5_blamedMost_45 : Ins mX5_blamedMost 45 46 1 (.iload_n 1) := ⟨by decide +kernel, rfl⟩
theorem iX5_blamedMost_46 : Ins mX5_blamedMost 46 47 1 (.ireturn) := ⟨by decide +kernel, rfl⟩
theorem iX5_deafOnes_0 : Ins mX5_deafOnes 0 1 1 (.iconst 0) := ⟨by decide +kernel, rfl⟩
theorem iX5_deafOnes_1 : Ins mX5_deafOnes 1 2 1 (.istore_n 1) := ⟨by decide +kernel, rfl⟩
theorem iX5_deafOnes_2 : Ins mX5_deafOnes 2 3 1 (.iconst 0) := ⟨by decide +kernel, rfl⟩
theorem iX5_deafOnes_3 : Ins mX5_deafOnes 3 4 1 (.istore_n 2) := ⟨by decide +kernel, rfl⟩
theorem iX5_deafOnes_4 : Ins mX5_deafOnes 4 5 1 (.iload_n 2) := ⟨by decide +kernel, rfl⟩
theorem iX5_deafOnes_5 : Ins mX5_deafOnes 5 6 1 (.aload_n 0) := ⟨by decide +kernel, rfl⟩
theorem iX5_deafOnes_6 : Ins mX5_deafOnes 6 9 3 (.getfield 9) := ⟨by decide +kernel, rfl⟩
theorem iX5_deafOnes_9 : Ins mX5_deafOnes 9 10 1 (.iconst 1) := ⟨by decide +kernel, rfl⟩
theorem iX5_deafOnes_10 : Ins mX5_deafOnes 10 11 1 (.iaload) := ⟨by decide +kernel, rfl⟩
theorem iX5_deafOnes_11 : InB mX5_deafOnes 11 14 38 (.if_icmp .ge) := ⟨by decide +kernel, rfl⟩
theorem iX5_deafOnes_14 : Ins mX5_deafOnes 14 15 1 (.iload_n 1) := ⟨by decide +kernel, rfl⟩
theorem iX5_deafOnes_15 : Ins mX5_deafOnes 15 16 1 (.aload_n 0) := ⟨by decide +kernel, rfl⟩
theorem iX5_deafOnes_16 : Ins mX5_deafOnes 16 17 1 (.iload_n 2) := ⟨by decide +kernel, rfl⟩
theorem iX5_deafOnes_17 : Ins mX5_deafOnes 17 20 3 (.invokevirtual 119) := ⟨by decide +kernel, rfl⟩
theorem iX5_deafOnes_20 : InB mX5_deafOnes 20 23 29 (.ifCond .ne) := ⟨by decide +kernel, rfl⟩
theorem iX5_deafOnes_23 : Ins mX5_deafOnes 23 24 1 (.iconst 1) := ⟨by decide +kernel, rfl⟩
theorem iX5_deafOnes_24 : Ins mX5_deafOnes 24 25 1 (.iload_n 2) := ⟨by decide +kernel, rfl⟩
theorem iX5_deafOnes_25 : Ins mX5_deafOnes 25 26 1 (.ishl) := ⟨by decide +kernel, rfl⟩
theorem iX5_deafOnes_26 : InB mX5_deafOnes 26 29 30 .goto := ⟨by decide +kernel, rfl⟩
theorem iX5_deafOnes_29 : Ins mX5_deafOnes 29 30 1 (.iconst 0) := ⟨by decide +kernel, rfl⟩
theorem iX5_deafOnes_30 : Ins mX5_deafOnes 30 31 1 (.ior) := ⟨by decide +kernel, rfl⟩
theorem iX5_deafOnes_31 : Ins mX5_deafOnes 31 32 1 (.istore_n 1) := ⟨by decide +kernel, rfl⟩
theorem iX5_deafOnes_32 : Ins mX5_deafOnes 32 35 3 (.iinc 2 1) := ⟨by decide +kernel, rfl⟩
theorem iX5_deafOnes_35 : InB mX5_deafOnes 35 38 4 .goto := ⟨by decide +kernel, rfl⟩
theorem iX5_deafOnes_38 : Ins mX5_deafOnes 38 39 1 (.iload_n 1) := ⟨by decide +kernel, rfl⟩
theorem iX5_deafOnes_39 : Ins mX5_deafOnes 39 40 1 (.ireturn) := ⟨by decide +kernel, rfl⟩
theorem iX5_fromNobody_0 : Ins mX5_fromNobody 0 1 1 (.iconst 0) := ⟨by decide +kernel, rfl⟩
theorem iX5_fromNobody_1 : Ins mX5_fromNobody 1 2 1 (.istore_n 1) := ⟨by decide +kernel, rfl⟩
theorem iX5_fromNobody_2 : Ins mX5_fromNobody 2 3 1 (.iconst 0) := ⟨by decide +kernel, rfl⟩
theorem iX5_fromNobody_3 : Ins mX5_fromNobody 3 4 1 (.istore_n 2) := ⟨by decide +kernel, rfl⟩
theorem iX5_fromNobody_4 : Ins mX5_fromNobody 4 5 1 (.iload_n 2) := ⟨by decide +kernel, rfl⟩
theorem iX5_fromNobody_5 : Ins mX5_fromNobody 5 6 1 (.aload_n 0) := ⟨by decide +kernel, rfl⟩
theorem iX5_fromNobody_6 : Ins mX5_fromNobody 6 9 3 (.getfield 9) := ⟨by decide +kernel, rfl⟩
theorem iX5_fromNobody_9 : Ins mX5_fromNobody 9 10 1 (.iconst 3) := ⟨by decide +kernel, rfl⟩
theorem iX5_fromNobody_10 : Ins mX5_fromNobody 10 11 1 (.iaload) := ⟨by decide +kernel, rfl⟩
theorem iX5_fromNobody_11 : InB mX5_fromNobody 11 14 55 (.if_icmp .ge) := ⟨by decide +kernel, rfl⟩
theorem iX5_fromNobody_14 : Ins mX5_fromNobody 14 15 1 (.aload_n 0) := ⟨by decide +kernel, rfl⟩
theorem iX5_fromNobody_15 : Ins mX5_fromNobody 15 16 1 (.iload_n 2) := ⟨by decide +kernel, rfl⟩
theorem iX5_fromNobody_16 : Ins mX5_fromNobody 16 17 1 (.iconst 2) := ⟨by decide +kernel, rfl⟩
theorem iX5_fromNobody_17 : Ins mX5_fromNobody 17 20 3 (.invokevirtual 112) := ⟨by decide +kernel, rfl⟩
theorem iX5_fromNobody_20 : Ins mX5_fromNobody 20 23 3 (.invokestatic 158) := ⟨by decide +kernel, rfl⟩
theorem iX5_fromNobody_23 : Ins mX5_fromNobody 23 24 1 (.istore_n 3) := ⟨by decide +kernel, rfl⟩
theorem iX5_fromNobody_24 : Ins mX5_fromNobody 24 25 1 (.iload_n 1) := ⟨by decide +kernel, rfl⟩
theorem iX5_fromNobody_25 : Ins mX5_fromNobody 25 26 1 (.iload_n 3) := ⟨by decide +kernel, rfl⟩
theorem iX5_fromNobody_26 : InB mX5_fromNobody 26 29 46 (.ifCond .lt) := ⟨by decide +kernel, rfl⟩
theorem iX5_fromNobody_29 : Ins mX5_fromNobody 29 30 1 (.aload_n 0) := ⟨by decide +kernel, rfl⟩
theorem iX5_fromNobody_30 : Ins mX5_fromNobody 30 31 1 (.iload_n 2) := ⟨by decide +kernel, rfl⟩
theorem iX5_fromNobody_31 : Ins mX5_fromNobody 31 32 1 (.iload_n 3) := ⟨by decide +kernel, rfl⟩
theorem iX5_fromNobody_32 : Ins mX5_fromNobody 32 35 3 (.invokevirtual 134) := ⟨by decide +kernel, rfl⟩
theorem iX5_fromNobody_35 : Ins mX5_fromNobody 35 37 2 (.bipush 8) := ⟨by decide +kernel, rfl⟩
theorem iX5_fromNobody_37 : InB mX5_fromNobody 37 40 46 (.if_icmp .ne) := ⟨by decide +kernel, rfl⟩
theorem iX5_fromNobody_40 : Ins mX5_fromNobody 40 41 1 (.iconst 1) := ⟨by decide +kernel, rfl⟩
theorem iX5_fromNobody_41 : Ins mX5_fromNobody 41 42 1 (.iload_n 2) := ⟨by decide +kernel, rfl⟩
theorem iX5_fromNobody_42 : Ins mX5_fromNobody 42 43 1 (.ishl) := ⟨by decide +kernel, rfl⟩
theorem iX5_fromNobody_43 : InB mX5_fromNobody 43 46 47 .goto := ⟨by decide +kernel, rfl⟩
theorem iX5_fromNobody_46 : Ins mX5_fromNobody 46 47 1 (.iconst 0) := ⟨by decide +kernel, rfl⟩
theorem iX5_fromNobody_47 : Ins mX5_fromNobody 47 48 1 (.ior) := ⟨by decide +kernel, rfl⟩
theorem iX5_fromNobody_48 : Ins mX5_fromNobody 48 49 1 (.istore_n 1) := ⟨by decide +kernel, rfl⟩
theorem iX5_fromNobody_49 : Ins mX5_fromNobody 49 52 3 (.iinc 2 1) := ⟨by decide +kernel, rfl⟩
theorem iX5_fromNobody_52 : InB mX5_fromNobody 52 55 4 .goto := ⟨by decide +kernel, rfl⟩
theorem iX5_fromNobody_55 : Ins mX5_fromNobody 55 56 1 (.iload_n 1) := ⟨by decide +kernel, rfl⟩
theorem iX5_fromNobody_56 : Ins mX5_fromNobody 56 57 1 (.ireturn) := ⟨by decide +kernel, rfl⟩
theorem iX5_now_0 : Ins mX5_now 0 1 1 (.iload_n 1) := ⟨by decide +kernel, rfl⟩
theorem iX5_now_1 : decode mX5_now.2.1 1 = .ok (.tableswitch 91 0 7 #[47, 54, 61, 66, 71, 76, 81, 86], 47) := by decide +kernel
theorem iX5_now_48 : Ins mX5_now 48 49 1 (.aload_n 0) := ⟨by decide +kernel, rfl⟩
theorem iX5_now_49 : Ins mX5_now 49 52 3 (.getfield 9) := ⟨by decide +kernel, rfl⟩
theorem iX5_now_52 : Ins mX5_now 52 53 1 (.iconst 0) := ⟨by decide +kernel, rfl⟩
theorem iX5_now_53 : Ins mX5_now 53 54 1 (.iaload) := ⟨by decide +kernel, rfl⟩
theorem iX5_now_54 : Ins mX5_now 54 55 1 (.ireturn) := ⟨by decide +kernel, rfl⟩
theorem iX5_now_55 : Ins mX5_now 55 56 1 (.aload_n 0) := ⟨by decide +kernel, rfl⟩
theorem iX5_now_56 : Ins mX5_now 56 59 3 (.getfield 9) := ⟨by decide +kernel, rfl⟩
theorem iX5_now_59 : Ins mX5_now 59 60 1 (.iconst 4) := ⟨by decide +kernel, rfl⟩
theorem iX5_now_60 : Ins mX5_now 60 61 1 (.iaload) := ⟨by decide +kernel, rfl⟩
theorem iX5_now_61 : Ins mX5_now 61 62 1 (.ireturn) := ⟨by decide +kernel, rfl⟩
theorem iX5_now_62 : Ins mX5_now 62 63 1 (.aload_n 0) := ⟨by decide +kernel, rfl⟩
theorem iX5_now_63 : Ins mX5_now 63 66 3 (.invokevirtual 192) := ⟨by decide +kernel, rfl⟩
theorem iX5_now_66 : Ins mX5_now 66 67 1 (.ireturn) := ⟨by decide +kernel, rfl⟩
theorem iX5_now_67 : Ins mX5_now 67 68 1 (.aload_n 0) := ⟨by decide +kernel, rfl⟩
theorem iX5_now_68 : Ins mX5_now 68 71 3 (.invokevirtual 195) := ⟨by decide +kernel, rfl⟩
theorem iX5_now_71 : Ins mX5_now 71 72 1 (.ireturn) := ⟨by decide +kernel, rfl⟩
theorem iX5_now_72 : Ins mX5_now 72 73 1 (.aload_n 0) := ⟨by decide +kernel, rfl⟩
theorem iX5_now_73 : Ins mX5_now 73 76 3 (.invokevirtual 198) := ⟨by decide +kernel, rfl⟩
theorem iX5_now_76 : Ins mX5_now 76 77 1 (.ireturn) := ⟨by decide +kernel, rfl⟩
theorem iX5_now_77 : Ins mX5_now 77 78 1 (.aload_n 0) := ⟨by decide +kernel, rfl⟩
theorem iX5_now_78 : Ins mX5_now 78 81 3 (.invokevirtual 201) := ⟨by decide +kernel, rfl⟩
theorem iX5_now_81 : Ins mX5_now 81 82 1 (.ireturn) := ⟨by decide +kernel, rfl⟩
theorem iX5_now_82 : Ins mX5_now 82 83 1 (.aload_n 0) := ⟨by decide +kernel, rfl⟩
theorem iX5_now_83 : Ins mX5_now 83 86 3 (.invokevirtual 204) := ⟨by decide +kernel, rfl⟩
theorem iX5_now_86 : Ins mX5_now 86 87 1 (.ireturn) := ⟨by decide +kernel, rfl⟩
theorem iX5_now_87 : Ins mX5_now 87 88 1 (.aload_n 0) := ⟨by decide +kernel, rfl⟩
theorem iX5_now_88 : Ins mX5_now 88 91 3 (.invokevirtual 207) := ⟨by decide +kernel, rfl⟩
theorem iX5_now_91 : Ins mX5_now 91 92 1 (.ireturn) := ⟨by decide +kernel, rfl⟩
theorem iX5_now_92 : Ins mX5_now 92 93 1 (.aload_n 0) := ⟨by decide +kernel, rfl⟩
theorem iX5_now_93 : Ins mX5_now 93 95 2 (.ldc 60) := ⟨by decide +kernel, rfl⟩
theorem iX5_now_95 : Ins mX5_now 95 98 3 (.invokevirtual 66) := ⟨by decide +kernel, rfl⟩
theorem iX5_now_98 : Ins mX5_now 98 99 1 (.ireturn) := ⟨by decide +kernel, rfl⟩
theorem iX5_behind_0 : Ins mX5_behind 0 1 1 (.aload_n 0) := ⟨by decide +kernel, rfl⟩
theorem iX5_behind_1 : Ins mX5_behind 1 4 3 (.getfield 9) := ⟨by decide +kernel, rfl⟩
theorem iX5_behind_4 : Ins mX5_behind 4 5 1 (.aload_n 0) := ⟨by decide +kernel, rfl⟩
theorem iX5_behind_5 : Ins mX5_behind 5 8 3 (.getfield 16) := ⟨by decide +kernel, rfl⟩
theorem iX5_behind_8 : Ins mX5_behind 8 11 3 (.invokestatic 61) := ⟨by decide +kernel, rfl⟩
theorem iX5_behind_11 : Ins mX5_behind 11 12 1 (.aload_n 0) := ⟨by decide +kernel, rfl⟩
theorem iX5_behind_12 : Ins mX5_behind 12 13 1 (.iload_n 2) := ⟨by decide +kernel, rfl⟩
theorem iX5_behind_13 : Ins mX5_behind 13 16 3 (.invokevirtual 183) := ⟨by decide +kernel, rfl⟩
theorem iX5_behind_16 : Ins mX5_behind 16 17 1 (.aload_n 0) := ⟨by decide +kernel, rfl⟩
theorem iX5_behind_17 : Ins mX5_behind 17 18 1 (.aload_n 0) := ⟨by decide +kernel, rfl⟩
theorem iX5_behind_18 : Ins mX5_behind 18 21 3 (.getfield 9) := ⟨by decide +kernel, rfl⟩
theorem iX5_behind_21 : Ins mX5_behind 21 22 1 (.iload_n 1) := ⟨by decide +kernel, rfl⟩
theorem iX5_behind_22 : Ins mX5_behind 22 23 1 (.iaload) := ⟨by decide +kernel, rfl⟩
theorem iX5_behind_23 : Ins mX5_behind 23 26 3 (.invokevirtual 210) := ⟨by decide +kernel, rfl⟩
theorem iX5_behind_26 : Ins mX5_behind 26 27 1 (.ireturn) := ⟨by decide +kernel, rfl⟩
theorem iX5_ahead_0 : Ins mX5_ahead 0 1 1 (.aload_n 0) := ⟨by decide +kernel, rfl⟩
theorem iX5_ahead_1 : Ins mX5_ahead 1 2 1 (.iload_n 1) := ⟨by decide +kernel, rfl⟩
theorem iX5_ahead_2 : Ins mX5_ahead 2 5 3 (.invokevirtual 105) := ⟨by decide +kernel, rfl⟩
theorem iX5_ahead_5 : InB mX5_ahead 5 8 27 (.ifCond .eq) := ⟨by decide +kernel, rfl⟩
theorem iX5_ahead_8 : Ins mX5_ahead 8 9 1 (.iload_n 2) := ⟨by decide +kernel, rfl⟩
theorem iX5_ahead_9 : Ins mX5_ahead 9 10 1 (.iconst 3) := ⟨by decide +kernel, rfl⟩
theorem iX5_ahead_10 : Ins mX5_ahead 10 11 1 (.iconst 4) := ⟨by decide +kernel, rfl⟩
theorem iX5_ahead_11 : Ins mX5_ahead 11 14 3 (.invokestatic 70) := ⟨by decide +kernel, rfl⟩
theorem iX5_ahead_14 : InB mX5_ahead 14 17 27 (.ifCond .eq) := ⟨by decide +kernel, rfl⟩
theorem iX5_ahead_17 : Ins mX5_ahead 17 18 1 (.iload_n 3) := ⟨by decide +kernel, rfl⟩
theorem iX5_ahead_18 : Ins mX5_ahead 18 19 1 (.iconst 0) := ⟨by decide +kernel, rfl⟩
theorem iX5_ahead_19 : Ins mX5_ahead 19 21 2 (.bipush 100) := ⟨by decide +kernel, rfl⟩
theorem iX5_ahead_21 : Ins mX5_ahead 21 24 3 (.invokestatic 70) := ⟨by decide +kernel, rfl⟩
theorem iX5_ahead_24 : InB mX5_ahead 24 27 34 (.ifCond .ne) := ⟨by decide +kernel, rfl⟩
theorem iX5_ahead_27 : Ins mX5_ahead 27 28 1 (.aload_n 0) := ⟨by decide +kernel, rfl⟩
theorem iX5_ahead_28 : Ins mX5_ahead 28 30 2 (.ldc 60) := ⟨by decide +kernel, rfl⟩
theorem iX5_ahead_30 : Ins mX5_ahead 30 33 3 (.invokevirtual 66) := ⟨by decide +kernel, rfl⟩
theorem iX5_ahead_33 : Ins mX5_ahead 33 34 1 (.ireturn) := ⟨by decide +kernel, rfl⟩
theorem iX5_ahead_34 : Ins mX5_ahead 34 35 1 (.aload_n 0) := ⟨by decide +kernel, rfl⟩
theorem iX5_ahead_35 : Ins mX5_ahead 35 38 3 (.getfield 9) := ⟨by decide +kernel, rfl⟩
theorem iX5_ahead_38 : Ins mX5_ahead 38 39 1 (.aload_n 0) := ⟨by decide +kernel, rfl⟩
theorem iX5_ahead_39 : Ins mX5_ahead 39 42 3 (.getfield 16) := ⟨by decide +kernel, rfl⟩
theorem iX5_ahead_42 : Ins mX5_ahead 42 45 3 (.invokestatic 61) := ⟨by decide +kernel, rfl⟩
theorem iX5_ahead_45 : Ins mX5_ahead 45 46 1 (.aload_n 0) := ⟨by decide +kernel, rfl⟩
theorem iX5_ahead_46 : Ins mX5_ahead 46 47 1 (.iload_n 3) := ⟨by decide +kernel, rfl⟩
theorem iX5_ahead_47 : Ins mX5_ahead 47 50 3 (.invokevirtual 183) := ⟨by decide +kernel, rfl⟩
theorem iX5_ahead_50 : Ins mX5_ahead 50 51 1 (.aload_n 0) := ⟨by decide +kernel, rfl⟩
theorem iX5_ahead_51 : Ins mX5_ahead 51 52 1 (.aload_n 0) := ⟨by decide +kernel, rfl⟩
theorem iX5_ahead_52 : Ins mX5_ahead 52 53 1 (.iload_n 1) := ⟨by decide +kernel, rfl⟩
theorem iX5_ahead_53 : Ins mX5_ahead 53 54 1 (.iload_n 2) := ⟨by decide +kernel, rfl⟩
theorem iX5_ahead_54 : Ins mX5_ahead 54 57 3 (.invokevirtual 125) := ⟨by decide +kernel, rfl⟩
theorem iX5_ahead_57 : Ins mX5_ahead 57 60 3 (.invokevirtual 210) := ⟨by decide +kernel, rfl⟩
theorem iX5_ahead_60 : Ins mX5_ahead 60 61 1 (.ireturn) := ⟨by decide +kernel, rfl⟩
theorem iX5_spread_0 : Ins mX5_spread 0 1 1 (.aload_n 0) := ⟨by decide +kernel, rfl⟩
theorem iX5_spread_1 : Ins mX5_spread 1 2 1 (.iload_n 1) := ⟨by decide +kernel, rfl⟩
theorem iX5_spread_2 : Ins mX5_spread 2 5 3 (.invokevirtual 131) := ⟨by decide +kernel, rfl⟩
theorem iX5_spread_5 : InB mX5_spread 5 8 31 (.ifCond .eq) := ⟨by decide +kernel, rfl⟩
theorem iX5_spread_8 : Ins mX5_spread 8 9 1 (.iload_n 2) := ⟨by decide +kernel, rfl⟩
theorem iX5_spread_9 : Ins mX5_spread 9 10 1 (.iconst 0) := ⟨by decide +kernel, rfl⟩
theorem iX5_spread_10 : Ins mX5_spread 10 12 2 (.bipush 100) := ⟨by decide +kernel, rfl⟩
theorem iX5_spread_12 : Ins mX5_spread 12 15 3 (.invokestatic 70) := ⟨by decide +kernel, rfl⟩
theorem iX5_spread_15 : InB mX5_spread 15 18 31 (.ifCond .eq) := ⟨by decide +kernel, rfl⟩
theorem iX5_spread_18 : Ins mX5_spread 18 19 1 (.aload_n 0) := ⟨by decide +kernel, rfl⟩
theorem iX5_spread_19 : Ins mX5_spread 19 20 1 (.iload_n 1) := ⟨by decide +kernel, rfl⟩
theorem iX5_spread_20 : Ins mX5_spread 20 21 1 (.iconst 2) := ⟨by decide +kernel, rfl⟩
theorem iX5_spread_21 : Ins mX5_spread 21 24 3 (.invokestatic 88) := ⟨by decide +kernel, rfl⟩
theorem iX5_spread_24 : Ins mX5_spread 24 25 1 (.iload_n 2) := ⟨by decide +kernel, rfl⟩
theorem iX5_spread_25 : Ins mX5_spread 25 28 3 (.invokevirtual 213) := ⟨by decide +kernel, rfl⟩
theorem iX5_spread_28 : InB mX5_spread 28 31 37 .goto := ⟨by decide +kernel, rfl⟩
theorem iX5_spread_31 : Ins mX5_spread 31 32 1 (.aload_n 0) := ⟨by decide +kernel, rfl⟩
theorem iX5_spread_32 : Ins mX5_spread 32 34 2 (.ldc 60) := ⟨by decide +kernel, rfl⟩
theorem iX5_spread_34 : Ins mX5_spread 34 37 3 (.invokevirtual 66) := ⟨by decide +kernel, rfl⟩
theorem iX5_spread_37 : Ins mX5_spread 37 38 1 (.ireturn) := ⟨by decide +kernel, rfl⟩
theorem iX5_when_0 : Ins mX5_when 0 1 1 (.aload_n 0) := ⟨by decide +kernel, rfl⟩
theorem iX5_when_1 : Ins mX5_when 1 2 1 (.iload_n 1) := ⟨by decide +kernel, rfl⟩
theorem iX5_when_2 : Ins mX5_when 2 5 3 (.invokevirtual 131) := ⟨by decide +kernel, rfl⟩
theorem iX5_when_5 : InB mX5_when 5 8 16 (.ifCond .eq) := ⟨by decide +kernel, rfl⟩
theorem iX5_when_8 : Ins mX5_when 8 9 1 (.aload_n 0) := ⟨by decide +kernel, rfl⟩
theorem iX5_when_9 : Ins mX5_when 9 10 1 (.iload_n 2) := ⟨by decide +kernel, rfl⟩
theorem iX5_when_10 : Ins mX5_when 10 13 3 (.invokevirtual 105) := ⟨by decide +kernel, rfl⟩
theorem iX5_when_13 : InB mX5_when 13 16 23 (.ifCond .ne) := ⟨by decide +kernel, rfl⟩
theorem iX5_when_16 : Ins mX5_when 16 17 1 (.aload_n 0) := ⟨by decide +kernel, rfl⟩
theorem iX5_when_17 : Ins mX5_when 17 19 2 (.ldc 60) := ⟨by decide +kernel, rfl⟩
theorem iX5_when_19 : Ins mX5_when 19 22 3 (.invokevirtual 66) := ⟨by decide +kernel, rfl⟩
theorem iX5_when_22 : Ins mX5_when 22 23 1 (.ireturn) := ⟨by decide +kernel, rfl⟩
theorem iX5_when_23 : Ins mX5_when 23 24 1 (.aload_n 0) := ⟨by decide +kernel, rfl⟩
theorem iX5_when_24 : Ins mX5_when 24 27 3 (.getfield 9) := ⟨by decide +kernel, rfl⟩
theorem iX5_when_27 : Ins mX5_when 27 28 1 (.aload_n 0) := ⟨by decide +kernel, rfl⟩
theorem iX5_when_28 : Ins mX5_when 28 31 3 (.getfield 16) := ⟨by decide +kernel, rfl⟩
theorem iX5_when_31 : Ins mX5_when 31 34 3 (.invokestatic 61) := ⟨by decide +kernel, rfl⟩
theorem iX5_when_34 : Ins mX5_when 34 35 1 (.iconst 0) := ⟨by decide +kernel, rfl⟩
theorem iX5_when_35 : Ins mX5_when 35 36 1 (.istore_n 3) := ⟨by decide +kernel, rfl⟩
theorem iX5_when_36 : Ins mX5_when 36 37 1 (.iload_n 3) := ⟨by decide +kernel, rfl⟩
theorem iX5_when_37 : Ins mX5_when 37 40 3 (.sipush 200) := ⟨by decide +kernel, rfl⟩
theorem iX5_when_40 : InB mX5_when 40 43 62 (.if_icmp .ge) := ⟨by decide +kernel, rfl⟩
theorem iX5_when_43 : Ins mX5_when 43 44 1 (.aload_n 0) := ⟨by decide +kernel, rfl⟩
theorem iX5_when_44 : Ins mX5_when 44 45 1 (.iload_n 1) := ⟨by decide +kernel, rfl⟩
theorem iX5_when_45 : Ins mX5_when 45 46 1 (.iload_n 2) := ⟨by decide +kernel, rfl⟩
theorem iX5_when_46 : Ins mX5_when 46 49 3 (.invokevirtual 115) := ⟨by decide +kernel, rfl⟩
theorem iX5_when_49 : InB mX5_when 49 52 62 (.ifCond .ne) := ⟨by decide +kernel, rfl⟩
theorem iX5_when_52 : Ins mX5_when 52 53 1 (.aload_n 0) := ⟨by decide +kernel, rfl⟩
theorem iX5_when_53 : Ins mX5_when 53 56 3 (.invokevirtual 180) := ⟨by decide +kernel, rfl⟩
theorem iX5_when_56 : Ins mX5_when 56 59 3 (.iinc 3 1) := ⟨by decide +kernel, rfl⟩
theorem iX5_when_59 : InB mX5_when 59 62 36 .goto := ⟨by decide +kernel, rfl⟩
theorem iX5_when_62 : Ins mX5_when 62 63 1 (.aload_n 0) := ⟨by decide +kernel, rfl⟩
theorem iX5_when_63 : Ins mX5_when 63 64 1 (.aload_n 0) := ⟨by decide +kernel, rfl⟩
theorem iX5_when_64 : Ins mX5_when 64 65 1 (.aload_n 0) := ⟨by decide +kernel, rfl⟩
theorem iX5_when_65 : Ins mX5_when 65 66 1 (.iload_n 1) := ⟨by decide +kernel, rfl⟩
theorem iX5_when_66 : Ins mX5_when 66 67 1 (.iload_n 2) := ⟨by decide +kernel, rfl⟩
theorem iX5_when_67 : Ins mX5_when 67 70 3 (.invokevirtual 115) := ⟨by decide +kernel, rfl⟩
theorem iX5_when_70 : InB mX5_when 70 73 77 (.ifCond .eq) := ⟨by decide +kernel, rfl⟩
theorem iX5_when_73 : Ins mX5_when 73 74 1 (.iload_n 3) := ⟨by decide +kernel, rfl⟩
theorem iX5_when_74 : InB mX5_when 74 77 78 .goto := ⟨by decide +kernel, rfl⟩
theorem iX5_when_77 : Ins mX5_when 77 78 1 (.iconst (-1)) := ⟨by decide +kernel, rfl⟩
theorem iX5_when_78 : Ins mX5_when 78 81 3 (.invokevirtual 210) := ⟨by decide +kernel, rfl⟩
theorem iX5_when_81 : Ins mX5_when 81 84 3 (.invokevirtual 216) := ⟨by decide +kernel, rfl⟩
theorem iX5_when_84 : Ins mX5_when 84 85 1 (.ireturn) := ⟨by decide +kernel, rfl⟩
theorem iX5_daysTo_0 : Ins mX5_daysTo 0 1 1 (.aload_n 0) := ⟨by decide +kernel, rfl⟩
theorem iX5_daysTo_1 : Ins mX5_daysTo 1 4 3 (.getfield 9) := ⟨by decide +kernel, rfl⟩
theorem iX5_daysTo_4 : Ins mX5_daysTo 4 5 1 (.aload_n 0) := ⟨by decide +kernel, rfl⟩
theorem iX5_daysTo_5 : Ins mX5_daysTo 5 8 3 (.getfield 16) := ⟨by decide +kernel, rfl⟩
theorem iX5_daysTo_8 : Ins mX5_daysTo 8 11 3 (.invokestatic 61) := ⟨by decide +kernel, rfl⟩
theorem iX5_daysTo_11 : Ins mX5_daysTo 11 12 1 (.iconst 0) := ⟨by decide +kernel, rfl⟩
theorem iX5_daysTo_12 : Ins mX5_daysTo 12 13 1 (.istore_n 3) := ⟨by decide +kernel, rfl⟩
theorem iX5_daysTo_13 : Ins mX5_daysTo 13 14 1 (.iload_n 3) := ⟨by decide +kernel, rfl⟩
theorem iX5_daysTo_14 : Ins mX5_daysTo 14 17 3 (.sipush 200) := ⟨by decide +kernel, rfl⟩
theorem iX5_daysTo_17 : InB mX5_daysTo 17 20 40 (.if_icmp .ge) := ⟨by decide +kernel, rfl⟩
theorem iX5_daysTo_20 : Ins mX5_daysTo 20 21 1 (.aload_n 0) := ⟨by decide +kernel, rfl⟩
theorem iX5_daysTo_21 : Ins mX5_daysTo 21 24 3 (.getfield 9) := ⟨by decide +kernel, rfl⟩
theorem iX5_daysTo_24 : Ins mX5_daysTo 24 25 1 (.iload_n 1) := ⟨by decide +kernel, rfl⟩
theorem iX5_daysTo_25 : Ins mX5_daysTo 25 26 1 (.iaload) := ⟨by decide +kernel, rfl⟩
theorem iX5_daysTo_26 : Ins mX5_daysTo 26 27 1 (.iload_n 2) := ⟨by decide +kernel, rfl⟩
theorem iX5_daysTo_27 : InB mX5_daysTo 27 30 40 (.if_icmp .ge) := ⟨by decide +kernel, rfl⟩
theorem iX5_daysTo_30 : Ins mX5_daysTo 30 31 1 (.aload_n 0) := ⟨by decide +kernel, rfl⟩
theorem iX5_daysTo_31 : Ins mX5_daysTo 31 34 3 (.invokevirtual 180) := ⟨by decide +kernel, rfl⟩
theorem iX5_daysTo_34 : Ins mX5_daysTo 34 37 3 (.iinc 3 1) := ⟨by decide +kernel, rfl⟩
theorem iX5_daysTo_37 : InB mX5_daysTo 37 40 13 .goto := ⟨by decide +kernel, rfl⟩
theorem iX5_daysTo_40 : Ins mX5_daysTo 40 41 1 (.aload_n 0) := ⟨by decide +kernel, rfl⟩
theorem iX5_daysTo_41 : Ins mX5_daysTo 41 42 1 (.aload_n 0) := ⟨by decide +kernel, rfl⟩
theorem iX5_daysTo_42 : Ins mX5_daysTo 42 45 3 (.getfield 9) := ⟨by decide +kernel, rfl⟩
theorem iX5_daysTo_45 : Ins mX5_daysTo 45 46 1 (.iload_n 1) := ⟨by decide +kernel, rfl⟩
theorem iX5_daysTo_46 : Ins mX5_daysTo 46 47 1 (.iaload) := ⟨by decide +kernel, rfl⟩
theorem iX5_daysTo_47 : Ins mX5_daysTo 47 48 1 (.iload_n 2) := ⟨by decide +kernel, rfl⟩
theorem iX5_daysTo_48 : InB mX5_daysTo 48 51 55 (.if_icmp .ge) := ⟨by decide +kernel, rfl⟩
theorem iX5_daysTo_51 : Ins mX5_daysTo 51 52 1 (.iconst (-1)) := ⟨by decide +kernel, rfl⟩
theorem iX5_daysTo_52 : InB mX5_daysTo 52 55 56 .goto := ⟨by decide +kernel, rfl⟩
theorem iX5_daysTo_55 : Ins mX5_daysTo 55 56 1 (.iload_n 3) := ⟨by decide +kernel, rfl⟩
theorem iX5_daysTo_56 : Ins mX5_daysTo 56 59 3 (.invokevirtual 210) := ⟨by decide +kernel, rfl⟩
theorem iX5_daysTo_59 : Ins mX5_daysTo 59 60 1 (.ireturn) := ⟨by decide +kernel, rfl⟩
theorem iX5_blamed_0 : Ins mX5_blamed 0 1 1 (.aload_n 0) := ⟨by decide +kernel, rfl⟩
theorem iX5_blamed_1 : Ins mX5_blamed 1 2 1 (.iload_n 1) := ⟨by decide +kernel, rfl⟩
theorem iX5_blamed_2 : Ins mX5_blamed 2 5 3 (.invokevirtual 105) := ⟨by decide +kernel, rfl⟩
theorem iX5_blamed_5 : InB mX5_blamed 5 8 36 (.ifCond .eq) := ⟨by decide +kernel, rfl⟩
theorem iX5_blamed_8 : Ins mX5_blamed 8 9 1 (.iload_n 2) := ⟨by decide +kernel, rfl⟩
theorem iX5_blamed_9 : Ins mX5_blamed 9 10 1 (.iconst 0) := ⟨by decide +kernel, rfl⟩
theorem iX5_blamed_10 : Ins mX5_blamed 10 13 3 (.sipush 9999) := ⟨by decide +kernel, rfl⟩
theorem iX5_blamed_13 : Ins mX5_blamed 13 16 3 (.invokestatic 70) := ⟨by decide +kernel, rfl⟩
theorem iX5_blamed_16 : InB mX5_blamed 16 19 36 (.ifCond .eq) := ⟨by decide +kernel, rfl⟩
theorem iX5_blamed_19 : Ins mX5_blamed 19 20 1 (.aload_n 0) := ⟨by decide +kernel, rfl⟩
theorem iX5_blamed_20 : Ins mX5_blamed 20 21 1 (.aload_n 0) := ⟨by decide +kernel, rfl⟩
theorem iX5_blamed_21 : Ins mX5_blamed 21 22 1 (.iload_n 1) := ⟨by decide +kernel, rfl⟩
theorem iX5_blamed_22 : Ins mX5_blamed 22 23 1 (.iconst 3) := ⟨by decide +kernel, rfl⟩
theorem iX5_blamed_23 : Ins mX5_blamed 23 26 3 (.invokestatic 85) := ⟨by decide +kernel, rfl⟩
theorem iX5_blamed_26 : Ins mX5_blamed 26 27 1 (.iload_n 2) := ⟨by decide +kernel, rfl⟩
theorem iX5_blamed_27 : Ins mX5_blamed 27 30 3 (.invokevirtual 219) := ⟨by decide +kernel, rfl⟩
theorem iX5_blamed_30 : Ins mX5_blamed 30 33 3 (.invokevirtual 216) := ⟨by decide +kernel, rfl⟩
theorem iX5_blamed_33 : InB mX5_blamed 33 36 42 .goto := ⟨by decide +kernel, rfl⟩
theorem iX5_blamed_36 : Ins mX5_blamed 36 37 1 (.aload_n 0) := ⟨by decide +kernel, rfl⟩
theorem iX5_blamed_37 : Ins mX5_blamed 37 39 2 (.ldc 60) := ⟨by decide +kernel, rfl⟩
theorem iX5_blamed_39 : Ins mX5_blamed 39 42 3 (.invokevirtual 66) := ⟨by decide +kernel, rfl⟩
theorem iX5_blamed_42 : Ins mX5_blamed 42 43 1 (.ireturn) := ⟨by decide +kernel, rfl⟩
theorem iX5_fund_0 : Ins mX5_fund 0 1 1 (.iload_n 1) := ⟨by decide +kernel, rfl⟩
theorem iX5_fund_1 : Ins mX5_fund 1 2 1 (.iconst 0) := ⟨by decide +kernel, rfl⟩
theorem iX5_fund_2 : Ins mX5_fund 2 4 2 (.ldc 172) := ⟨by decide +kernel, rfl⟩
theorem iX5_fund_4 : Ins mX5_fund 4 7 3 (.invokestatic 70) := ⟨by decide +kernel, rfl⟩
theorem iX5_fund_7 : InB mX5_fund 7 10 23 (.ifCond .eq) := ⟨by decide +kernel, rfl⟩
theorem iX5_fund_10 : Ins mX5_fund 10 11 1 (.aload_n 0) := ⟨by decide +kernel, rfl⟩
theorem iX5_fund_11 : Ins mX5_fund 11 12 1 (.aload_n 0) := ⟨by decide +kernel, rfl⟩
theorem iX5_fund_12 : Ins mX5_fund 12 13 1 (.iconst 4) := ⟨by decide +kernel, rfl⟩
theorem iX5_fund_13 : Ins mX5_fund 13 14 1 (.iload_n 1) := ⟨by decide +kernel, rfl⟩
theorem iX5_fund_14 : Ins mX5_fund 14 17 3 (.invokevirtual 219) := ⟨by decide +kernel, rfl⟩
theorem iX5_fund_17 : Ins mX5_fund 17 20 3 (.invokevirtual 216) := ⟨by decide +kernel, rfl⟩
theorem iX5_fund_20 : InB mX5_fund 20 23 29 .goto := ⟨by decide +kernel, rfl⟩
theorem iX5_fund_23 : Ins mX5_fund 23 24 1 (.aload_n 0) := ⟨by decide +kernel, rfl⟩
theorem iX5_fund_24 : Ins mX5_fund 24 26 2 (.ldc 60) := ⟨by decide +kernel, rfl⟩
theorem iX5_fund_26 : Ins mX5_fund 26 29 3 (.invokevirtual 66) := ⟨by decide +kernel, rfl⟩
theorem iX5_fund_29 : Ins mX5_fund 29 30 1 (.ireturn) := ⟨by decide +kernel, rfl⟩
theorem iX5_isThought_0 : Ins mX5_isThought 0 1 1 (.iload_n 0) := ⟨by decide +kernel, rfl⟩
theorem iX5_isThought_1 : Ins mX5_isThought 1 2 1 (.iconst 0) := ⟨by decide +kernel, rfl⟩
theorem iX5_isThought_2 : Ins mX5_isThought 2 4 2 (.bipush 60) := ⟨by decide +kernel, rfl⟩
theorem iX5_isThought_4 : Ins mX5_isThought 4 7 3 (.invokestatic 70) := ⟨by decide +kernel, rfl⟩
theorem iX5_isThought_7 : Ins mX5_isThought 7 8 1 (.ireturn) := ⟨by decide +kernel, rfl⟩
theorem iX5_spreadBy_0 : Ins mX5_spreadBy 0 1 1 (.aload_n 0) := ⟨by decide +kernel, rfl⟩
theorem iX5_spreadBy_1 : Ins mX5_spreadBy 1 4 3 (.getfield 9) := ⟨by decide +kernel, rfl⟩
theorem iX5_spreadBy_4 : Ins mX5_spreadBy 4 5 1 (.aload_n 0) := ⟨by decide +kernel, rfl⟩
theorem iX5_spreadBy_5 : Ins mX5_spreadBy 5 8 3 (.getfield 16) := ⟨by decide +kernel, rfl⟩
theorem iX5_spreadBy_8 : Ins mX5_spreadBy 8 11 3 (.invokestatic 61) := ⟨by decide +kernel, rfl⟩
theorem iX5_spreadBy_11 : Ins mX5_spreadBy 11 12 1 (.aload_n 0) := ⟨by decide +kernel, rfl⟩
theorem iX5_spreadBy_12 : Ins mX5_spreadBy 12 13 1 (.iload_n 1) := ⟨by decide +kernel, rfl⟩
theorem iX5_spreadBy_13 : Ins mX5_spreadBy 13 14 1 (.iload_n 2) := ⟨by decide +kernel, rfl⟩
theorem iX5_spreadBy_14 : Ins mX5_spreadBy 14 17 3 (.invokevirtual 101) := ⟨by decide +kernel, rfl⟩
theorem iX5_spreadBy_17 : Ins mX5_spreadBy 17 18 1 (.aload_n 0) := ⟨by decide +kernel, rfl⟩
theorem iX5_spreadBy_18 : Ins mX5_spreadBy 18 19 1 (.iload_n 3) := ⟨by decide +kernel, rfl⟩
theorem iX5_spreadBy_19 : Ins mX5_spreadBy 19 22 3 (.invokevirtual 183) := ⟨by decide +kernel, rfl⟩
theorem iX5_spreadBy_22 : Ins mX5_spreadBy 22 23 1 (.aload_n 0) := ⟨by decide +kernel, rfl⟩
theorem iX5_spreadBy_23 : Ins mX5_spreadBy 23 24 1 (.aload_n 0) := ⟨by decide +kernel, rfl⟩
theorem iX5_spreadBy_24 : Ins mX5_spreadBy 24 25 1 (.iload_n 1) := ⟨by decide +kernel, rfl⟩
theorem iX5_spreadBy_25 : Ins mX5_spreadBy 25 26 1 (.iconst 2) := ⟨by decide +kernel, rfl⟩
theorem iX5_spreadBy_26 : Ins mX5_spreadBy 26 29 3 (.invokevirtual 112) := ⟨by decide +kernel, rfl⟩
theorem iX5_spreadBy_29 : Ins mX5_spreadBy 29 32 3 (.invokestatic 186) := ⟨by decide +kernel, rfl⟩
theorem iX5_spreadBy_32 : Ins mX5_spreadBy 32 35 3 (.invokevirtual 210) := ⟨by decide +kernel, rfl⟩
theorem iX5_spreadBy_35 : Ins mX5_spreadBy 35 36 1 (.ireturn) := ⟨by decide +kernel, rfl⟩
theorem iX5_beginner_0 : Ins mX5_beginner 0 1 1 (.aload_n 0) := ⟨by decide +kernel, rfl⟩
theorem iX5_beginner_1 : Ins mX5_beginner 1 2 1 (.iload_n 1) := ⟨by decide +kernel, rfl⟩
theorem iX5_beginner_2 : Ins mX5_beginner 2 5 3 (.invokevirtual 131) := ⟨by decide +kernel, rfl⟩
theorem iX5_beginner_5 : InB mX5_beginner 5 8 15 (.ifCond .eq) := ⟨by decide +kernel, rfl⟩
theorem iX5_beginner_8 : Ins mX5_beginner 8 9 1 (.iload_n 2) := ⟨by decide +kernel, rfl⟩
theorem iX5_beginner_9 : Ins mX5_beginner 9 12 3 (.invokestatic 222) := ⟨by decide +kernel, rfl⟩
theorem iX5_beginner_12 : InB mX5_beginner 12 15 22 (.ifCond .ne) := ⟨by decide +kernel, rfl⟩
theorem iX5_beginner_15 : Ins mX5_beginner 15 16 1 (.aload_n 0) := ⟨by decide +kernel, rfl⟩
theorem iX5_beginner_16 : Ins mX5_beginner 16 18 2 (.ldc 60) := ⟨by decide +kernel, rfl⟩
theorem iX5_beginner_18 : Ins mX5_beginner 18 21 3 (.invokevirtual 66) := ⟨by decide +kernel, rfl⟩
theorem iX5_beginner_21 : Ins mX5_beginner 21 22 1 (.ireturn) := ⟨by decide +kernel, rfl⟩
theorem iX5_beginner_22 : Ins mX5_beginner 22 23 1 (.iconst (-1)) := ⟨by decide +kernel, rfl⟩
theorem iX5_beginner_23 : Ins mX5_beginner 23 24 1 (.istore_n 3) := ⟨by decide +kernel, rfl⟩
theorem iX5_beginner_24 : Ins mX5_beginner 24 25 1 (.iconst (-1)) := ⟨by decide +kernel, rfl⟩
theorem iX5_beginner_25 : Ins mX5_beginner 25 27 2 (.istore 4) := ⟨by decide +kernel, rfl⟩
theorem iX5_beginner_27 : Ins mX5_beginner 27 28 1 (.iconst 0) := ⟨by decide +kernel, rfl⟩
theorem iX5_beginner_28 : Ins mX5_beginner 28 30 2 (.istore 5) := ⟨by decide +kernel, rfl⟩
theorem iX5_beginner_30 : Ins mX5_beginner 30 32 2 (.iload 5) := ⟨by decide +kernel, rfl⟩
theorem iX5_beginner_32 : Ins mX5_beginner 32 33 1 (.aload_n 0) := ⟨by decide +kernel, rfl⟩
theorem iX5_beginner_33 : Ins mX5_beginner 33 36 3 (.getfield 9) := ⟨by decide +kernel, rfl⟩
theorem iX5_beginner_36 : Ins mX5_beginner 36 37 1 (.iconst 1) := ⟨by decide +kernel, rfl⟩
theorem iX5_beginner_37 : Ins mX5_beginner 37 38 1 (.iaload) := ⟨by decide +kernel, rfl⟩
theorem iX5_beginner_38 : InB mX5_beginner 38 41 71 (.if_icmp .ge) := ⟨by decide +kernel, rfl⟩
theorem iX5_beginner_41 : Ins mX5_beginner 41 42 1 (.aload_n 0) := ⟨by decide +kernel, rfl⟩
theorem iX5_beginner_42 : Ins mX5_beginner 42 43 1 (.iload_n 1) := ⟨by decide +kernel, rfl⟩
theorem iX5_beginner_43 : Ins mX5_beginner 43 45 2 (.iload 5) := ⟨by decide +kernel, rfl⟩
theorem iX5_beginner_45 : Ins mX5_beginner 45 46 1 (.iload_n 2) := ⟨by decide +kernel, rfl⟩
theorem iX5_beginner_46 : Ins mX5_beginner 46 49 3 (.invokevirtual 225) := ⟨by decide +kernel, rfl⟩
theorem iX5_beginner_49 : Ins mX5_beginner 49 51 2 (.istore 6) := ⟨by decide +kernel, rfl⟩
theorem iX5_beginner_51 : Ins mX5_beginner 51 53 2 (.iload 6) := ⟨by decide +kernel, rfl⟩
theorem iX5_beginner_53 : Ins mX5_beginner 53 55 2 (.iload 4) := ⟨by decide +kernel, rfl⟩
theorem iX5_beginner_55 : InB mX5_beginner 55 58 65 (.if_icmp .le) := ⟨by decide +kernel, rfl⟩
theorem iX5_beginner_58 : Ins mX5_beginner 58 60 2 (.iload 5) := ⟨by decide +kernel, rfl⟩
theorem iX5_beginner_60 : Ins mX5_beginner 60 61 1 (.istore_n 3) := ⟨by decide +kernel, rfl⟩
theorem iX5_beginner_61 : Ins mX5_beginner 61 63 2 (.iload 6) := ⟨by decide +kernel, rfl⟩
theorem iX5_beginner_63 : Ins mX5_beginner 63 65 2 (.istore 4) := ⟨by decide +kernel, rfl⟩
theorem iX5_beginner_65 : Ins mX5_beginner 65 68 3 (.iinc 5 1) := ⟨by decide +kernel, rfl⟩
theorem iX5_beginner_68 : InB mX5_beginner 68 71 30 .goto := ⟨by decide +kernel, rfl⟩
theorem iX5_beginner_71 : Ins mX5_beginner 71 72 1 (.aload_n 0) := ⟨by decide +kernel, rfl⟩
theorem iX5_beginner_72 : Ins mX5_beginner 72 73 1 (.iload_n 3) := ⟨by decide +kernel, rfl⟩
theorem iX5_beginner_73 : Ins mX5_beginner 73 76 3 (.invokevirtual 216) := ⟨by decide +kernel, rfl⟩
theorem iX5_beginner_76 : Ins mX5_beginner 76 77 1 (.ireturn) := ⟨by decide +kernel, rfl⟩
theorem iX5_kindFor_0 : Ins mX5_kindFor 0 1 1 (.aload_n 0) := ⟨by decide +kernel, rfl⟩
theorem iX5_kindFor_1 : Ins mX5_kindFor 1 2 1 (.iload_n 1) := ⟨by decide +kernel, rfl⟩
theorem iX5_kindFor_2 : Ins mX5_kindFor 2 5 3 (.invokevirtual 105) := ⟨by decide +kernel, rfl⟩
theorem iX5_kindFor_5 : InB mX5_kindFor 5 8 15 (.ifCond .eq) := ⟨by decide +kernel, rfl⟩
theorem iX5_kindFor_8 : Ins mX5_kindFor 8 9 1 (.iload_n 2) := ⟨by decide +kernel, rfl⟩
theorem iX5_kindFor_9 : Ins mX5_kindFor 9 12 3 (.invokestatic 222) := ⟨by decide +kernel, rfl⟩
theorem iX5_kindFor_12 : InB mX5_kindFor 12 15 22 (.ifCond .ne) := ⟨by decide +kernel, rfl⟩
theorem iX5_kindFor_15 : Ins mX5_kindFor 15 16 1 (.aload_n 0) := ⟨by decide +kernel, rfl⟩
theorem iX5_kindFor_16 : Ins mX5_kindFor 16 18 2 (.ldc 60) := ⟨by decide +kernel, rfl⟩
theorem iX5_kindFor_18 : Ins mX5_kindFor 18 21 3 (.invokevirtual 66) := ⟨by decide +kernel, rfl⟩
theorem iX5_kindFor_21 : Ins mX5_kindFor 21 22 1 (.ireturn) := ⟨by decide +kernel, rfl⟩
theorem iX5_kindFor_22 : Ins mX5_kindFor 22 23 1 (.iload_n 1) := ⟨by decide +kernel, rfl⟩
theorem iX5_kindFor_23 : Ins mX5_kindFor 23 24 1 (.iconst 0) := ⟨by decide +kernel, rfl⟩
theorem iX5_kindFor_24 : Ins mX5_kindFor 24 27 3 (.invokestatic 85) := ⟨by decide +kernel, rfl⟩
theorem iX5_kindFor_27 : Ins mX5_kindFor 27 28 1 (.istore_n 3) := ⟨by decide +kernel, rfl⟩
theorem iX5_kindFor_28 : Ins mX5_kindFor 28 29 1 (.aload_n 0) := ⟨by decide +kernel, rfl⟩
theorem iX5_kindFor_29 : Ins mX5_kindFor 29 32 3 (.getfield 9) := ⟨by decide +kernel, rfl⟩
theorem iX5_kindFor_32 : Ins mX5_kindFor 32 33 1 (.iload_n 3) := ⟨by decide +kernel, rfl⟩
theorem iX5_kindFor_33 : Ins mX5_kindFor 33 34 1 (.iaload) := ⟨by decide +kernel, rfl⟩
theorem iX5_kindFor_34 : Ins mX5_kindFor 34 36 2 (.istore 4) := ⟨by decide +kernel, rfl⟩
theorem iX5_kindFor_36 : Ins mX5_kindFor 36 37 1 (.iconst 0) := ⟨by decide +kernel, rfl⟩
theorem iX5_kindFor_37 : Ins mX5_kindFor 37 39 2 (.istore 5) := ⟨by decide +kernel, rfl⟩
theorem iX5_kindFor_39 : Ins mX5_kindFor 39 42 3 (.sipush 10000) := ⟨by decide +kernel, rfl⟩
theorem iX5_kindFor_42 : Ins mX5_kindFor 42 44 2 (.istore 6) := ⟨by decide +kernel, rfl⟩
theorem iX5_kindFor_44 : Ins mX5_kindFor 44 45 1 (.iconst 0) := ⟨by decide +kernel, rfl⟩
theorem iX5_kindFor_45 : Ins mX5_kindFor 45 47 2 (.istore 7) := ⟨by decide +kernel, rfl⟩
theorem iX5_kindFor_47 : Ins mX5_kindFor 47 49 2 (.iload 7) := ⟨by decide +kernel, rfl⟩
theorem iX5_kindFor_49 : Ins mX5_kindFor 49 51 2 (.bipush 6) := ⟨by decide +kernel, rfl⟩
theorem iX5_kindFor_51 : InB mX5_kindFor 51 54 95 (.if_icmp .gt) := ⟨by decide +kernel, rfl⟩
theorem iX5_kindFor_54 : Ins mX5_kindFor 54 55 1 (.aload_n 0) := ⟨by decide +kernel, rfl⟩
theorem iX5_kindFor_55 : Ins mX5_kindFor 55 58 3 (.getfield 9) := ⟨by decide +kernel, rfl⟩
theorem iX5_kindFor_58 : Ins mX5_kindFor 58 59 1 (.iload_n 3) := ⟨by decide +kernel, rfl⟩
theorem iX5_kindFor_59 : Ins mX5_kindFor 59 61 2 (.iload 7) := ⟨by decide +kernel, rfl⟩
theorem iX5_kindFor_61 : Ins mX5_kindFor 61 62 1 (.iastore) := ⟨by decide +kernel, rfl⟩
theorem iX5_kindFor_62 : Ins mX5_kindFor 62 63 1 (.aload_n 0) := ⟨by decide +kernel, rfl⟩
theorem iX5_kindFor_63 : Ins mX5_kindFor 63 64 1 (.iload_n 1) := ⟨by decide +kernel, rfl⟩
theorem iX5_kindFor_64 : Ins mX5_kindFor 64 65 1 (.iconst 3) := ⟨by decide +kernel, rfl⟩
theorem iX5_kindFor_65 : Ins mX5_kindFor 65 68 3 (.invokestatic 85) := ⟨by decide +kernel, rfl⟩
theorem iX5_kindFor_68 : Ins mX5_kindFor 68 69 1 (.iload_n 2) := ⟨by decide +kernel, rfl⟩
theorem iX5_kindFor_69 : Ins mX5_kindFor 69 72 3 (.invokevirtual 213) := ⟨by decide +kernel, rfl⟩
theorem iX5_kindFor_72 : Ins mX5_kindFor 72 74 2 (.istore 8) := ⟨by decide +kernel, rfl⟩
theorem iX5_kindFor_74 : Ins mX5_kindFor 74 76 2 (.iload 8) := ⟨by decide +kernel, rfl⟩
theorem iX5_kindFor_76 : Ins mX5_kindFor 76 78 2 (.iload 6) := ⟨by decide +kernel, rfl⟩
theorem iX5_kindFor_78 : InB mX5_kindFor 78 81 89 (.if_icmp .ge) := ⟨by decide +kernel, rfl⟩
theorem iX5_kindFor_81 : Ins mX5_kindFor 81 83 2 (.iload 7) := ⟨by decide +kernel, rfl⟩
theorem iX5_kindFor_83 : Ins mX5_kindFor 83 85 2 (.istore 5) := ⟨by decide +kernel, rfl⟩
theorem iX5_kindFor_85 : Ins mX5_kindFor 85 87 2 (.iload 8) := ⟨by decide +kernel, rfl⟩
theorem iX5_kindFor_87 : Ins mX5_kindFor 87 89 2 (.istore 6) := ⟨by decide +kernel, rfl⟩
theorem iX5_kindFor_89 : Ins mX5_kindFor 89 92 3 (.iinc 7 1) := ⟨by decide +kernel, rfl⟩
theorem iX5_kindFor_92 : InB mX5_kindFor 92 95 47 .goto := ⟨by decide +kernel, rfl⟩
theorem iX5_kindFor_95 : Ins mX5_kindFor 95 96 1 (.aload_n 0) := ⟨by decide +kernel, rfl⟩
theorem iX5_kindFor_96 : Ins mX5_kindFor 96 99 3 (.getfield 9) := ⟨by decide +kernel, rfl⟩
theorem iX5_kindFor_99 : Ins mX5_kindFor 99 100 1 (.iload_n 3) := ⟨by decide +kernel, rfl⟩
theorem iX5_kindFor_100 : Ins mX5_kindFor 100 102 2 (.iload 4) := ⟨by decide +kernel, rfl⟩
theorem iX5_kindFor_102 : Ins mX5_kindFor 102 103 1 (.iastore) := ⟨by decide +kernel, rfl⟩
theorem iX5_kindFor_103 : Ins mX5_kindFor 103 105 2 (.iload 5) := ⟨by decide +kernel, rfl⟩
theorem iX5_kindFor_105 : Ins mX5_kindFor 105 106 1 (.ireturn) := ⟨by decide +kernel, rfl⟩
theorem iX5_trustFor_0 : Ins mX5_trustFor 0 1 1 (.aload_n 0) := ⟨by decide +kernel, rfl⟩
theorem iX5_trustFor_1 : Ins mX5_trustFor 1 2 1 (.iload_n 1) := ⟨by decide +kernel, rfl⟩
theorem iX5_trustFor_2 : Ins mX5_trustFor 2 5 3 (.invokevirtual 131) := ⟨by decide +kernel, rfl⟩
theorem iX5_trustFor_5 : InB mX5_trustFor 5 8 23 (.ifCond .eq) := ⟨by decide +kernel, rfl⟩
theorem iX5_trustFor_8 : Ins mX5_trustFor 8 9 1 (.aload_n 0) := ⟨by decide +kernel, rfl⟩
theorem iX5_trustFor_9 : Ins mX5_trustFor 9 10 1 (.iload_n 2) := ⟨by decide +kernel, rfl⟩
theorem iX5_trustFor_10 : Ins mX5_trustFor 10 13 3 (.invokevirtual 105) := ⟨by decide +kernel, rfl⟩
theorem iX5_trustFor_13 : InB mX5_trustFor 13 16 23 (.ifCond .eq) := ⟨by decide +kernel, rfl⟩
theorem iX5_trustFor_16 : Ins mX5_trustFor 16 17 1 (.iload_n 3) := ⟨by decide +kernel, rfl⟩
theorem iX5_trustFor_17 : Ins mX5_trustFor 17 20 3 (.invokestatic 222) := ⟨by decide +kernel, rfl⟩
theorem iX5_trustFor_20 : InB mX5_trustFor 20 23 30 (.ifCond .ne) := ⟨by decide +kernel, rfl⟩
theorem iX5_trustFor_23 : Ins mX5_trustFor 23 24 1 (.aload_n 0) := ⟨by decide +kernel, rfl⟩
theorem iX5_trustFor_24 : Ins mX5_trustFor 24 26 2 (.ldc 60) := ⟨by decide +kernel, rfl⟩
theorem iX5_trustFor_26 : Ins mX5_trustFor 26 29 3 (.invokevirtual 66) := ⟨by decide +kernel, rfl⟩
theorem iX5_trustFor_29 : Ins mX5_trustFor 29 30 1 (.ireturn) := ⟨by decide +kernel, rfl⟩
theorem iX5_trustFor_30 : Ins mX5_trustFor 30 31 1 (.iload_n 2) := ⟨by decide +kernel, rfl⟩
theorem iX5_trustFor_31 : Ins mX5_trustFor 31 32 1 (.iconst 1) := ⟨by decide +kernel, rfl⟩
theorem iX5_trustFor_32 : Ins mX5_trustFor 32 35 3 (.invokestatic 85) := ⟨by decide +kernel, rfl⟩
theorem iX5_trustFor_35 : Ins mX5_trustFor 35 37 2 (.istore 4) := ⟨by decide +kernel, rfl⟩
theorem iX5_trustFor_37 : Ins mX5_trustFor 37 38 1 (.aload_n 0) := ⟨by decide +kernel, rfl⟩
theorem iX5_trustFor_38 : Ins mX5_trustFor 38 41 3 (.getfield 9) := ⟨by decide +kernel, rfl⟩
theorem iX5_trustFor_41 : Ins mX5_trustFor 41 43 2 (.iload 4) := ⟨by decide +kernel, rfl⟩
theorem iX5_trustFor_43 : Ins mX5_trustFor 43 44 1 (.iaload) := ⟨by decide +kernel, rfl⟩
theorem iX5_trustFor_44 : Ins mX5_trustFor 44 46 2 (.istore 5) := ⟨by decide +kernel, rfl⟩
theorem iX5_trustFor_46 : Ins mX5_trustFor 46 47 1 (.iconst (-1)) := ⟨by decide +kernel, rfl⟩
theorem iX5_trustFor_47 : Ins mX5_trustFor 47 49 2 (.istore 6) := ⟨by decide +kernel, rfl⟩
theorem iX5_trustFor_49 : Ins mX5_trustFor 49 51 2 (.bipush 9) := ⟨by decide +kernel, rfl⟩
theorem iX5_trustFor_51 : Ins mX5_trustFor 51 53 2 (.istore 7) := ⟨by decide +kernel, rfl⟩
theorem iX5_trustFor_53 : Ins mX5_trustFor 53 55 2 (.iload 7) := ⟨by decide +kernel, rfl⟩
theorem iX5_trustFor_55 : InB mX5_trustFor 55 58 100 (.ifCond .lt) := ⟨by decide +kernel, rfl⟩
theorem iX5_trustFor_58 : Ins mX5_trustFor 58 59 1 (.aload_n 0) := ⟨by decide +kernel, rfl⟩
theorem iX5_trustFor_59 : Ins mX5_trustFor 59 62 3 (.getfield 9) := ⟨by decide +kernel, rfl⟩
theorem iX5_trustFor_62 : Ins mX5_trustFor 62 64 2 (.iload 4) := ⟨by decide +kernel, rfl⟩
theorem iX5_trustFor_64 : Ins mX5_trustFor 64 66 2 (.iload 7) := ⟨by decide +kernel, rfl⟩
theorem iX5_trustFor_66 : Ins mX5_trustFor 66 67 1 (.iastore) := ⟨by decide +kernel, rfl⟩
theorem iX5_trustFor_67 : Ins mX5_trustFor 67 68 1 (.aload_n 0) := ⟨by decide +kernel, rfl⟩
theorem iX5_trustFor_68 : Ins mX5_trustFor 68 69 1 (.iload_n 1) := ⟨by decide +kernel, rfl⟩
theorem iX5_trustFor_69 : Ins mX5_trustFor 69 70 1 (.iconst 2) := ⟨by decide +kernel, rfl⟩
theorem iX5_trustFor_70 : Ins mX5_trustFor 70 73 3 (.invokestatic 88) := ⟨by decide +kernel, rfl⟩
theorem iX5_trustFor_73 : Ins mX5_trustFor 73 74 1 (.iload_n 3) := ⟨by decide +kernel, rfl⟩
theorem iX5_trustFor_74 : Ins mX5_trustFor 74 77 3 (.invokevirtual 213) := ⟨by decide +kernel, rfl⟩
theorem iX5_trustFor_77 : Ins mX5_trustFor 77 78 1 (.iload_n 2) := ⟨by decide +kernel, rfl⟩
theorem iX5_trustFor_78 : Ins mX5_trustFor 78 79 1 (.ishr) := ⟨by decide +kernel, rfl⟩
theorem iX5_trustFor_79 : Ins mX5_trustFor 79 80 1 (.iconst 1) := ⟨by decide +kernel, rfl⟩
theorem iX5_trustFor_80 : Ins mX5_trustFor 80 81 1 (.iand) := ⟨by decide +kernel, rfl⟩
theorem iX5_trustFor_81 : Ins mX5_trustFor 81 82 1 (.iconst 1) := ⟨by decide +kernel, rfl⟩
theorem iX5_trustFor_82 : InB mX5_trustFor 82 85 90 (.if_icmp .ne) := ⟨by decide +kernel, rfl⟩
theorem iX5_trustFor_85 : Ins mX5_trustFor 85 87 2 (.iload 7) := ⟨by decide +kernel, rfl⟩
theorem iX5_trustFor_87 : InB mX5_trustFor 87 90 92 .goto := ⟨by decide +kernel, rfl⟩
theorem iX5_trustFor_90 : Ins mX5_trustFor 90 92 2 (.iload 6) := ⟨by decide +kernel, rfl⟩
theorem iX5_trustFor_92 : Ins mX5_trustFor 92 94 2 (.istore 6) := ⟨by decide +kernel, rfl⟩
theorem iX5_trustFor_94 : Ins mX5_trustFor 94 97 3 (.iinc 7 (-1)) := ⟨by decide +kernel, rfl⟩
theorem iX5_trustFor_97 : InB mX5_trustFor 97 100 53 .goto := ⟨by decide +kernel, rfl⟩
theorem iX5_trustFor_100 : Ins mX5_trustFor 100 101 1 (.aload_n 0) := ⟨by decide +kernel, rfl⟩
theorem iX5_trustFor_101 : Ins mX5_trustFor 101 104 3 (.getfield 9) := ⟨by decide +kernel, rfl⟩
theorem iX5_trustFor_104 : Ins mX5_trustFor 104 106 2 (.iload 4) := ⟨by decide +kernel, rfl⟩
theorem iX5_trustFor_106 : Ins mX5_trustFor 106 108 2 (.iload 5) := ⟨by decide +kernel, rfl⟩
theorem iX5_trustFor_108 : Ins mX5_trustFor 108 109 1 (.iastore) := ⟨by decide +kernel, rfl⟩
theorem iX5_trustFor_109 : Ins mX5_trustFor 109 110 1 (.aload_n 0) := ⟨by decide +kernel, rfl⟩
theorem iX5_trustFor_110 : Ins mX5_trustFor 110 112 2 (.iload 6) := ⟨by decide +kernel, rfl⟩
theorem iX5_trustFor_112 : Ins mX5_trustFor 112 115 3 (.invokevirtual 216) := ⟨by decide +kernel, rfl⟩
theorem iX5_trustFor_115 : Ins mX5_trustFor 115 116 1 (.ireturn) := ⟨by decide +kernel, rfl⟩
theorem iX5_weightFor_0 : Ins mX5_weightFor 0 1 1 (.aload_n 0) := ⟨by decide +kernel, rfl⟩
theorem iX5_weightFor_1 : Ins mX5_weightFor 1 2 1 (.iload_n 1) := ⟨by decide +kernel, rfl⟩
theorem iX5_weightFor_2 : Ins mX5_weightFor 2 5 3 (.invokevirtual 131) := ⟨by decide +kernel, rfl⟩
theorem iX5_weightFor_5 : InB mX5_weightFor 5 8 15 (.ifCond .eq) := ⟨by decide +kernel, rfl⟩
theorem iX5_weightFor_8 : Ins mX5_weightFor 8 9 1 (.iload_n 2) := ⟨by decide +kernel, rfl⟩
theorem iX5_weightFor_9 : Ins mX5_weightFor 9 12 3 (.invokestatic 222) := ⟨by decide +kernel, rfl⟩
theorem iX5_weightFor_12 : InB mX5_weightFor 12 15 22 (.ifCond .ne) := ⟨by decide +kernel, rfl⟩
theorem iX5_weightFor_15 : Ins mX5_weightFor 15 16 1 (.aload_n 0) := ⟨by decide +kernel, rfl⟩
theorem iX5_weightFor_16 : Ins mX5_weightFor 16 18 2 (.ldc 60) := ⟨by decide +kernel, rfl⟩
theorem iX5_weightFor_18 : Ins mX5_weightFor 18 21 3 (.invokevirtual 66) := ⟨by decide +kernel, rfl⟩
theorem iX5_weightFor_21 : Ins mX5_weightFor 21 22 1 (.ireturn) := ⟨by decide +kernel, rfl⟩
theorem iX5_weightFor_22 : Ins mX5_weightFor 22 23 1 (.iload_n 1) := ⟨by decide +kernel, rfl⟩
theorem iX5_weightFor_23 : Ins mX5_weightFor 23 24 1 (.iconst 1) := ⟨by decide +kernel, rfl⟩
theorem iX5_weightFor_24 : Ins mX5_weightFor 24 27 3 (.invokestatic 88) := ⟨by decide +kernel, rfl⟩
theorem iX5_weightFor_27 : Ins mX5_weightFor 27 28 1 (.istore_n 3) := ⟨by decide +kernel, rfl⟩
theorem iX5_weightFor_28 : Ins mX5_weightFor 28 29 1 (.aload_n 0) := ⟨by decide +kernel, rfl⟩
theorem iX5_weightFor_29 : Ins mX5_weightFor 29 32 3 (.getfield 9) := ⟨by decide +kernel, rfl⟩
theorem iX5_weightFor_32 : Ins mX5_weightFor 32 33 1 (.iload_n 3) := ⟨by decide +kernel, rfl⟩
theorem iX5_weightFor_33 : Ins mX5_weightFor 33 34 1 (.iaload) := ⟨by decide +kernel, rfl⟩
theorem iX5_weightFor_34 : Ins mX5_weightFor 34 36 2 (.istore 4) := ⟨by decide +kernel, rfl⟩
theorem iX5_weightFor_36 : Ins mX5_weightFor 36 37 1 (.iconst (-1)) := ⟨by decide +kernel, rfl⟩
theorem iX5_weightFor_37 : Ins mX5_weightFor 37 39 2 (.istore 5) := ⟨by decide +kernel, rfl⟩
theorem iX5_weightFor_39 : Ins mX5_weightFor 39 40 1 (.iconst 0) := ⟨by decide +kernel, rfl⟩
theorem iX5_weightFor_40 : Ins mX5_weightFor 40 42 2 (.istore 6) := ⟨by decide +kernel, rfl⟩
theorem iX5_weightFor_42 : Ins mX5_weightFor 42 44 2 (.iload 6) := ⟨by decide +kernel, rfl⟩
theorem iX5_weightFor_44 : Ins mX5_weightFor 44 46 2 (.bipush 9) := ⟨by decide +kernel, rfl⟩
theorem iX5_weightFor_46 : InB mX5_weightFor 46 49 95 (.if_icmp .gt) := ⟨by decide +kernel, rfl⟩
theorem iX5_weightFor_49 : Ins mX5_weightFor 49 50 1 (.aload_n 0) := ⟨by decide +kernel, rfl⟩
theorem iX5_weightFor_50 : Ins mX5_weightFor 50 53 3 (.getfield 9) := ⟨by decide +kernel, rfl⟩
theorem iX5_weightFor_53 : Ins mX5_weightFor 53 54 1 (.iload_n 3) := ⟨by decide +kernel, rfl⟩
theorem iX5_weightFor_54 : Ins mX5_weightFor 54 56 2 (.iload 6) := ⟨by decide +kernel, rfl⟩
theorem iX5_weightFor_56 : Ins mX5_weightFor 56 57 1 (.iastore) := ⟨by decide +kernel, rfl⟩
theorem iX5_weightFor_57 : Ins mX5_weightFor 57 58 1 (.aload_n 0) := ⟨by decide +kernel, rfl⟩
theorem iX5_weightFor_58 : Ins mX5_weightFor 58 59 1 (.iload_n 1) := ⟨by decide +kernel, rfl⟩
theorem iX5_weightFor_59 : Ins mX5_weightFor 59 60 1 (.iconst 2) := ⟨by decide +kernel, rfl⟩
theorem iX5_weightFor_60 : Ins mX5_weightFor 60 63 3 (.invokestatic 88) := ⟨by decide +kernel, rfl⟩
theorem iX5_weightFor_63 : Ins mX5_weightFor 63 64 1 (.iload_n 2) := ⟨by decide +kernel, rfl⟩
theorem iX5_weightFor_64 : Ins mX5_weightFor 64 67 3 (.invokevirtual 213) := ⟨by decide +kernel, rfl⟩
theorem iX5_weightFor_67 : Ins mX5_weightFor 67 68 1 (.iconst 1) := ⟨by decide +kernel, rfl⟩
theorem iX5_weightFor_68 : Ins mX5_weightFor 68 69 1 (.aload_n 0) := ⟨by decide +kernel, rfl⟩
theorem iX5_weightFor_69 : Ins mX5_weightFor 69 72 3 (.getfield 9) := ⟨by decide +kernel, rfl⟩
theorem iX5_weightFor_72 : Ins mX5_weightFor 72 73 1 (.iconst 1) := ⟨by decide +kernel, rfl⟩
theorem iX5_weightFor_73 : Ins mX5_weightFor 73 74 1 (.iaload) := ⟨by decide +kernel, rfl⟩
theorem iX5_weightFor_74 : Ins mX5_weightFor 74 75 1 (.ishl) := ⟨by decide +kernel, rfl⟩
theorem iX5_weightFor_75 : Ins mX5_weightFor 75 76 1 (.iconst 1) := ⟨by decide +kernel, rfl⟩
theorem iX5_weightFor_76 : Ins mX5_weightFor 76 77 1 (.isub) := ⟨by decide +kernel, rfl⟩
theorem iX5_weightFor_77 : InB mX5_weightFor 77 80 85 (.if_icmp .ne) := ⟨by decide +kernel, rfl⟩
theorem iX5_weightFor_80 : Ins mX5_weightFor 80 82 2 (.iload 6) := ⟨by decide +kernel, rfl⟩
theorem iX5_weightFor_82 : InB mX5_weightFor 82 85 87 .goto := ⟨by decide +kernel, rfl⟩
theorem iX5_weightFor_85 : Ins mX5_weightFor 85 87 2 (.iload 5) := ⟨by decide +kernel, rfl⟩
theorem iX5_weightFor_87 : Ins mX5_weightFor 87 89 2 (.istore 5) := ⟨by decide +kernel, rfl⟩
theorem iX5_weightFor_89 : Ins mX5_weightFor 89 92 3 (.iinc 6 1) := ⟨by decide +kernel, rfl⟩
theorem iX5_weightFor_92 : InB mX5_weightFor 92 95 42 .goto := ⟨by decide +kernel, rfl⟩
theorem iX5_weightFor_95 : Ins mX5_weightFor 95 96 1 (.aload_n 0) := ⟨by decide +kernel, rfl⟩
theorem iX5_weightFor_96 : Ins mX5_weightFor 96 99 3 (.getfield 9) := ⟨by decide +kernel, rfl⟩
theorem iX5_weightFor_99 : Ins mX5_weightFor 99 100 1 (.iload_n 3) := ⟨by decide +kernel, rfl⟩
theorem iX5_weightFor_100 : Ins mX5_weightFor 100 102 2 (.iload 4) := ⟨by decide +kernel, rfl⟩
theorem iX5_weightFor_102 : Ins mX5_weightFor 102 103 1 (.iastore) := ⟨by decide +kernel, rfl⟩
theorem iX5_weightFor_103 : Ins mX5_weightFor 103 104 1 (.aload_n 0) := ⟨by decide +kernel, rfl⟩
theorem iX5_weightFor_104 : Ins mX5_weightFor 104 106 2 (.iload 5) := ⟨by decide +kernel, rfl⟩
theorem iX5_weightFor_106 : Ins mX5_weightFor 106 109 3 (.invokevirtual 216) := ⟨by decide +kernel, rfl⟩
theorem iX5_weightFor_109 : Ins mX5_weightFor 109 110 1 (.ireturn) := ⟨by decide +kernel, rfl⟩
theorem iX5_staysAway_0 : Ins mX5_staysAway 0 1 1 (.aload_n 0) := ⟨by decide +kernel, rfl⟩
theorem iX5_staysAway_1 : Ins mX5_staysAway 1 4 3 (.getfield 9) := ⟨by decide +kernel, rfl⟩
theorem iX5_staysAway_4 : Ins mX5_staysAway 4 5 1 (.aload_n 0) := ⟨by decide +kernel, rfl⟩
theorem iX5_staysAway_5 : Ins mX5_staysAway 5 8 3 (.getfield 16) := ⟨by decide +kernel, rfl⟩
theorem iX5_staysAway_8 : Ins mX5_staysAway 8 11 3 (.invokestatic 61) := ⟨by decide +kernel, rfl⟩
theorem iX5_staysAway_11 : Ins mX5_staysAway 11 12 1 (.iconst 0) := ⟨by decide +kernel, rfl⟩
theorem iX5_staysAway_12 : Ins mX5_staysAway 12 14 2 (.istore 5) := ⟨by decide +kernel, rfl⟩
theorem iX5_staysAway_14 : Ins mX5_staysAway 14 16 2 (.iload 5) := ⟨by decide +kernel, rfl⟩
theorem iX5_staysAway_16 : Ins mX5_staysAway 16 17 1 (.aload_n 0) := ⟨by decide +kernel, rfl⟩
theorem iX5_staysAway_17 : Ins mX5_staysAway 17 20 3 (.getfield 9) := ⟨by decide +kernel, rfl⟩
theorem iX5_staysAway_20 : Ins mX5_staysAway 20 21 1 (.iconst 1) := ⟨by decide +kernel, rfl⟩
theorem iX5_staysAway_21 : Ins mX5_staysAway 21 22 1 (.iaload) := ⟨by decide +kernel, rfl⟩
theorem iX5_staysAway_22 : InB mX5_staysAway 22 25 53 (.if_icmp .ge) := ⟨by decide +kernel, rfl⟩
theorem iX5_staysAway_25 : Ins mX5_staysAway 25 26 1 (.iload_n 1) := ⟨by decide +kernel, rfl⟩
theorem iX5_staysAway_26 : Ins mX5_staysAway 26 28 2 (.iload 5) := ⟨by decide +kernel, rfl⟩
theorem iX5_staysAway_28 : Ins mX5_staysAway 28 29 1 (.ishr) := ⟨by decide +kernel, rfl⟩
theorem iX5_staysAway_29 : Ins mX5_staysAway 29 30 1 (.iconst 1) := ⟨by decide +kernel, rfl⟩
theorem iX5_staysAway_30 : Ins mX5_staysAway 30 31 1 (.iand) := ⟨by decide +kernel, rfl⟩
theorem iX5_staysAway_31 : Ins mX5_staysAway 31 32 1 (.iconst 1) := ⟨by decide +kernel, rfl⟩
theorem iX5_staysAway_32 : InB mX5_staysAway 32 35 47 (.if_icmp .ne) := ⟨by decide +kernel, rfl⟩
theorem iX5_staysAway_35 : Ins mX5_staysAway 35 36 1 (.aload_n 0) := ⟨by decide +kernel, rfl⟩
theorem iX5_staysAway_36 : Ins mX5_staysAway 36 39 3 (.getfield 9) := ⟨by decide +kernel, rfl⟩
theorem iX5_staysAway_39 : Ins mX5_staysAway 39 41 2 (.iload 5) := ⟨by decide +kernel, rfl⟩
theorem iX5_staysAway_41 : Ins mX5_staysAway 41 42 1 (.iconst 2) := ⟨by decide +kernel, rfl⟩
theorem iX5_staysAway_42 : Ins mX5_staysAway 42 45 3 (.invokestatic 85) := ⟨by decide +kernel, rfl⟩
theorem iX5_staysAway_45 : Ins mX5_staysAway 45 46 1 (.iconst 1) := ⟨by decide +kernel, rfl⟩
theorem iX5_staysAway_46 : Ins mX5_staysAway 46 47 1 (.iastore) := ⟨by decide +kernel, rfl⟩
theorem iX5_staysAway_47 : Ins mX5_staysAway 47 50 3 (.iinc 5 1) := ⟨by decide +kernel, rfl⟩
theorem iX5_staysAway_50 : InB mX5_staysAway 50 53 14 .goto := ⟨by decide +kernel, rfl⟩
theorem iX5_staysAway_53 : Ins mX5_staysAway 53 54 1 (.aload_n 0) := ⟨by decide +kernel, rfl⟩
theorem iX5_staysAway_54 : Ins mX5_staysAway 54 56 2 (.iload 4) := ⟨by decide +kernel, rfl⟩
theorem iX5_staysAway_56 : Ins mX5_staysAway 56 59 3 (.invokevirtual 183) := ⟨by decide +kernel, rfl⟩
theorem iX5_staysAway_59 : Ins mX5_staysAway 59 60 1 (.aload_n 0) := ⟨by decide +kernel, rfl⟩
theorem iX5_staysAway_60 : Ins mX5_staysAway 60 61 1 (.iload_n 2) := ⟨by decide +kernel, rfl⟩
theorem iX5_staysAway_61 : Ins mX5_staysAway 61 62 1 (.iload_n 3) := ⟨by decide +kernel, rfl⟩
theorem iX5_staysAway_62 : Ins mX5_staysAway 62 65 3 (.invokevirtual 115) := ⟨by decide +kernel, rfl⟩
theorem iX5_staysAway_65 : InB mX5_staysAway 65 68 72 (.ifCond .ne) := ⟨by decide +kernel, rfl⟩
theorem iX5_staysAway_68 : Ins mX5_staysAway 68 69 1 (.iconst 1) := ⟨by decide +kernel, rfl⟩
theorem iX5_staysAway_69 : InB mX5_staysAway 69 72 73 .goto := ⟨by decide +kernel, rfl⟩
theorem iX5_staysAway_72 : Ins mX5_staysAway 72 73 1 (.iconst 0) := ⟨by decide +kernel, rfl⟩
theorem iX5_staysAway_73 : Ins mX5_staysAway 73 75 2 (.istore 5) := ⟨by decide +kernel, rfl⟩
theorem iX5_staysAway_75 : Ins mX5_staysAway 75 76 1 (.aload_n 0) := ⟨by decide +kernel, rfl⟩
theorem iX5_staysAway_76 : Ins mX5_staysAway 76 79 3 (.getfield 16) := ⟨by decide +kernel, rfl⟩
theorem iX5_staysAway_79 : Ins mX5_staysAway 79 80 1 (.aload_n 0) := ⟨by decide +kernel, rfl⟩
theorem iX5_staysAway_80 : Ins mX5_staysAway 80 83 3 (.getfield 9) := ⟨by decide +kernel, rfl⟩
theorem iX5_staysAway_83 : Ins mX5_staysAway 83 86 3 (.invokestatic 61) := ⟨by decide +kernel, rfl⟩
theorem iX5_staysAway_86 : Ins mX5_staysAway 86 88 2 (.iload 5) := ⟨by decide +kernel, rfl⟩
theorem iX5_staysAway_88 : Ins mX5_staysAway 88 89 1 (.ireturn) := ⟨by decide +kernel, rfl⟩
theorem iX5_hush_0 : Ins mX5_hush 0 1 1 (.aload_n 0) := ⟨by decide +kernel, rfl⟩
theorem iX5_hush_1 : Ins mX5_hush 1 2 1 (.iload_n 1) := ⟨by decide +kernel, rfl⟩
theorem iX5_hush_2 : Ins mX5_hush 2 5 3 (.invokevirtual 131) := ⟨by decide +kernel, rfl⟩
theorem iX5_hush_5 : InB mX5_hush 5 8 26 (.ifCond .eq) := ⟨by decide +kernel, rfl⟩
theorem iX5_hush_8 : Ins mX5_hush 8 9 1 (.aload_n 0) := ⟨by decide +kernel, rfl⟩
theorem iX5_hush_9 : Ins mX5_hush 9 10 1 (.iload_n 2) := ⟨by decide +kernel, rfl⟩
theorem iX5_hush_10 : Ins mX5_hush 10 13 3 (.invokevirtual 105) := ⟨by decide +kernel, rfl⟩
theorem iX5_hush_13 : InB mX5_hush 13 16 26 (.ifCond .eq) := ⟨by decide +kernel, rfl⟩
theorem iX5_hush_16 : Ins mX5_hush 16 17 1 (.iload_n 3) := ⟨by decide +kernel, rfl⟩
theorem iX5_hush_17 : Ins mX5_hush 17 18 1 (.iconst 0) := ⟨by decide +kernel, rfl⟩
theorem iX5_hush_18 : Ins mX5_hush 18 20 2 (.bipush 20) := ⟨by decide +kernel, rfl⟩
theorem iX5_hush_20 : Ins mX5_hush 20 23 3 (.invokestatic 70) := ⟨by decide +kernel, rfl⟩
theorem iX5_hush_23 : InB mX5_hush 23 26 33 (.ifCond .ne) := ⟨by decide +kernel, rfl⟩
theorem iX5_hush_26 : Ins mX5_hush 26 27 1 (.aload_n 0) := ⟨by decide +kernel, rfl⟩
theorem iX5_hush_27 : Ins mX5_hush 27 29 2 (.ldc 60) := ⟨by decide +kernel, rfl⟩
theorem iX5_hush_29 : Ins mX5_hush 29 32 3 (.invokevirtual 66) := ⟨by decide +kernel, rfl⟩
theorem iX5_hush_32 : Ins mX5_hush 32 33 1 (.ireturn) := ⟨by decide +kernel, rfl⟩
theorem iX5_hush_33 : Ins mX5_hush 33 34 1 (.iconst (-1)) := ⟨by decide +kernel, rfl⟩
theorem iX5_hush_34 : Ins mX5_hush 34 36 2 (.istore 4) := ⟨by decide +kernel, rfl⟩
theorem iX5_hush_36 : Ins mX5_hush 36 37 1 (.iconst 1) := ⟨by decide +kernel, rfl⟩
theorem iX5_hush_37 : Ins mX5_hush 37 38 1 (.aload_n 0) := ⟨by decide +kernel, rfl⟩
theorem iX5_hush_38 : Ins mX5_hush 38 41 3 (.getfield 9) := ⟨by decide +kernel, rfl⟩
theorem iX5_hush_41 : Ins mX5_hush 41 42 1 (.iconst 1) := ⟨by decide +kernel, rfl⟩
theorem iX5_hush_42 : Ins mX5_hush 42 43 1 (.iaload) := ⟨by decide +kernel, rfl⟩
theorem iX5_hush_43 : Ins mX5_hush 43 44 1 (.ishl) := ⟨by decide +kernel, rfl⟩
theorem iX5_hush_44 : Ins mX5_hush 44 45 1 (.iconst 1) := ⟨by decide +kernel, rfl⟩
theorem iX5_hush_45 : Ins mX5_hush 45 46 1 (.isub) := ⟨by decide +kernel, rfl⟩
theorem iX5_hush_46 : Ins mX5_hush 46 48 2 (.istore 5) := ⟨by decide +kernel, rfl⟩
theorem iX5_hush_48 : Ins mX5_hush 48 50 2 (.iload 5) := ⟨by decide +kernel, rfl⟩
theorem iX5_hush_50 : InB mX5_hush 50 53 98 (.ifCond .lt) := ⟨by decide +kernel, rfl⟩
theorem iX5_hush_53 : Ins mX5_hush 53 55 2 (.iload 4) := ⟨by decide +kernel, rfl⟩
theorem iX5_hush_55 : InB mX5_hush 55 58 71 (.ifCond .lt) := ⟨by decide +kernel, rfl⟩
theorem iX5_hush_58 : Ins mX5_hush 58 60 2 (.iload 5) := ⟨by decide +kernel, rfl⟩
theorem iX5_hush_60 : Ins mX5_hush 60 63 3 (.invokestatic 186) := ⟨by decide +kernel, rfl⟩
theorem iX5_hush_63 : Ins mX5_hush 63 65 2 (.iload 4) := ⟨by decide +kernel, rfl⟩
theorem iX5_hush_65 : Ins mX5_hush 65 68 3 (.invokestatic 186) := ⟨by decide +kernel, rfl⟩
theorem iX5_hush_68 : InB mX5_hush 68 71 88 (.if_icmp .gt) := ⟨by decide +kernel, rfl⟩
theorem iX5_hush_71 : Ins mX5_hush 71 72 1 (.aload_n 0) := ⟨by decide +kernel, rfl⟩
theorem iX5_hush_72 : Ins mX5_hush 72 74 2 (.iload 5) := ⟨by decide +kernel, rfl⟩
theorem iX5_hush_74 : Ins mX5_hush 74 75 1 (.iload_n 1) := ⟨by decide +kernel, rfl⟩
theorem iX5_hush_75 : Ins mX5_hush 75 76 1 (.iload_n 2) := ⟨by decide +kernel, rfl⟩
theorem iX5_hush_76 : Ins mX5_hush 76 77 1 (.iload_n 3) := ⟨by decide +kernel, rfl⟩
theorem iX5_hush_77 : Ins mX5_hush 77 80 3 (.invokevirtual 228) := ⟨by decide +kernel, rfl⟩
theorem iX5_hush_80 : InB mX5_hush 80 83 88 (.ifCond .eq) := ⟨by decide +kernel, rfl⟩
theorem iX5_hush_83 : Ins mX5_hush 83 85 2 (.iload 5) := ⟨by decide +kernel, rfl⟩
theorem iX5_hush_85 : InB mX5_hush 85 88 90 .goto := ⟨by decide +kernel, rfl⟩
theorem iX5_hush_88 : Ins mX5_hush 88 90 2 (.iload 4) := ⟨by decide +kernel, rfl⟩
theorem iX5_hush_90 : Ins mX5_hush 90 92 2 (.istore 4) := ⟨by decide +kernel, rfl⟩
theorem iX5_hush_92 : Ins mX5_hush 92 95 3 (.iinc 5 (-1)) := ⟨by decide +kernel, rfl⟩
theorem iX5_hush_95 : InB mX5_hush 95 98 48 .goto := ⟨by decide +kernel, rfl⟩
theorem iX5_hush_98 : Ins mX5_hush 98 99 1 (.aload_n 0) := ⟨by decide +kernel, rfl⟩
theorem iX5_hush_99 : Ins mX5_hush 99 101 2 (.iload 4) := ⟨by decide +kernel, rfl⟩
theorem iX5_hush_101 : Ins mX5_hush 101 104 3 (.invokevirtual 216) := ⟨by decide +kernel, rfl⟩
theorem iX5_hush_104 : Ins mX5_hush 104 105 1 (.ireturn) := ⟨by decide +kernel, rfl⟩
theorem iX5_lacks_0 : Ins mX5_lacks 0 1 1 (.iload_n 1) := ⟨by decide +kernel, rfl⟩
theorem iX5_lacks_1 : Ins mX5_lacks 1 4 3 (.invokestatic 232) := ⟨by decide +kernel, rfl⟩
theorem iX5_lacks_4 : InB mX5_lacks 4 7 12 (.ifCond .ne) := ⟨by decide +kernel, rfl⟩
theorem iX5_lacks_7 : Ins mX5_lacks 7 9 2 (.ldc 60) := ⟨by decide +kernel, rfl⟩
theorem iX5_lacks_9 : InB mX5_lacks 9 12 36 .goto := ⟨by decide +kernel, rfl⟩
theorem iX5_lacks_12 : Ins mX5_lacks 12 13 1 (.aload_n 0) := ⟨by decide +kernel, rfl⟩
theorem iX5_lacks_13 : Ins mX5_lacks 13 16 3 (.getfield 48) := ⟨by decide +kernel, rfl⟩
theorem iX5_lacks_16 : Ins mX5_lacks 16 17 1 (.iload_n 1) := ⟨by decide +kernel, rfl⟩
theorem iX5_lacks_17 : Ins mX5_lacks 17 18 1 (.iaload) := ⟨by decide +kernel, rfl⟩
theorem iX5_lacks_18 : InB mX5_lacks 18 21 26 (.ifCond .ne) := ⟨by decide +kernel, rfl⟩
theorem iX5_lacks_21 : Ins mX5_lacks 21 23 2 (.ldc 235) := ⟨by decide +kernel, rfl⟩
theorem iX5_lacks_23 : InB mX5_lacks 23 26 36 .goto := ⟨by decide +kernel, rfl⟩
theorem iX5_lacks_26 : Ins mX5_lacks 26 27 1 (.iload_n 2) := ⟨by decide +kernel, rfl⟩
theorem iX5_lacks_27 : InB mX5_lacks 27 30 34 (.ifCond .eq) := ⟨by decide +kernel, rfl⟩
theorem iX5_lacks_30 : Ins mX5_lacks 30 31 1 (.iconst 0) := ⟨by decide +kernel, rfl⟩
theorem iX5_lacks_31 : InB mX5_lacks 31 34 36 .goto := ⟨by decide +kernel, rfl⟩
theorem iX5_lacks_34 : Ins mX5_lacks 34 36 2 (.ldc 60) := ⟨by decide +kernel, rfl⟩
theorem iX5_lacks_36 : Ins mX5_lacks 36 37 1 (.ireturn) := ⟨by decide +kernel, rfl⟩
theorem iX5_isSo_0 : Ins mX5_isSo 0 1 1 (.aload_n 0) := ⟨by decide +kernel, rfl⟩
theorem iX5_isSo_1 : Ins mX5_isSo 1 4 3 (.getfield 9) := ⟨by decide +kernel, rfl⟩
theorem iX5_isSo_4 : Ins mX5_isSo 4 5 1 (.aload_n 0) := ⟨by decide +kernel, rfl⟩
theorem iX5_isSo_5 : Ins mX5_isSo 5 8 3 (.getfield 16) := ⟨by decide +kernel, rfl⟩
theorem iX5_isSo_8 : Ins mX5_isSo 8 11 3 (.invokestatic 61) := ⟨by decide +kernel, rfl⟩
theorem iX5_isSo_11 : Ins mX5_isSo 11 12 1 (.iconst 1) := ⟨by decide +kernel, rfl⟩
theorem iX5_isSo_12 : Ins mX5_isSo 12 14 2 (.istore 4) := ⟨by decide +kernel, rfl⟩
theorem iX5_isSo_14 : Ins mX5_isSo 14 15 1 (.iconst 0) := ⟨by decide +kernel, rfl⟩
theorem iX5_isSo_15 : Ins mX5_isSo 15 17 2 (.istore 5) := ⟨by decide +kernel, rfl⟩
theorem iX5_isSo_17 : Ins mX5_isSo 17 19 2 (.iload 5) := ⟨by decide +kernel, rfl⟩
theorem iX5_isSo_19 : Ins mX5_isSo 19 20 1 (.aload_n 0) := ⟨by decide +kernel, rfl⟩
theorem iX5_isSo_20 : Ins mX5_isSo 20 23 3 (.getfield 51) := ⟨by decide +kernel, rfl⟩
theorem iX5_isSo_23 : Ins mX5_isSo 23 24 1 (.iload_n 1) := ⟨by decide +kernel, rfl⟩
theorem iX5_isSo_24 : Ins mX5_isSo 24 25 1 (.iaload) := ⟨by decide +kernel, rfl⟩
theorem iX5_isSo_25 : InB mX5_isSo 25 28 93 (.if_icmp .ge) := ⟨by decide +kernel, rfl⟩
theorem iX5_isSo_28 : Ins mX5_isSo 28 30 2 (.iload 4) := ⟨by decide +kernel, rfl⟩
theorem iX5_isSo_30 : InB mX5_isSo 30 33 93 (.ifCond .eq) := ⟨by decide +kernel, rfl⟩
theorem iX5_isSo_33 : Ins mX5_isSo 33 34 1 (.aload_n 0) := ⟨by decide +kernel, rfl⟩
theorem iX5_isSo_34 : Ins mX5_isSo 34 37 3 (.getfield 54) := ⟨by decide +kernel, rfl⟩
theorem iX5_isSo_37 : Ins mX5_isSo 37 39 2 (.bipush 40) := ⟨by decide +kernel, rfl⟩
theorem iX5_isSo_39 : Ins mX5_isSo 39 40 1 (.iload_n 1) := ⟨by decide +kernel, rfl⟩
theorem iX5_isSo_40 : Ins mX5_isSo 40 41 1 (.imul) := ⟨by decide +kernel, rfl⟩
theorem iX5_isSo_41 : Ins mX5_isSo 41 43 2 (.iload 5) := ⟨by decide +kernel, rfl⟩
theorem iX5_isSo_43 : Ins mX5_isSo 43 44 1 (.iadd) := ⟨by decide +kernel, rfl⟩
theorem iX5_isSo_44 : Ins mX5_isSo 44 45 1 (.iaload) := ⟨by decide +kernel, rfl⟩
theorem iX5_isSo_45 : Ins mX5_isSo 45 47 2 (.istore 6) := ⟨by decide +kernel, rfl⟩
theorem iX5_isSo_47 : Ins mX5_isSo 47 49 2 (.iload 6) := ⟨by decide +kernel, rfl⟩
theorem iX5_isSo_49 : Ins mX5_isSo 49 50 1 (.iconst (-1)) := ⟨by decide +kernel, rfl⟩
theorem iX5_isSo_50 : InB mX5_isSo 50 53 76 (.if_icmp .eq) := ⟨by decide +kernel, rfl⟩
theorem iX5_isSo_53 : Ins mX5_isSo 53 55 2 (.iload 6) := ⟨by decide +kernel, rfl⟩
theorem iX5_isSo_55 : Ins mX5_isSo 55 56 1 (.iload_n 2) := ⟨by decide +kernel, rfl⟩
theorem iX5_isSo_56 : InB mX5_isSo 56 59 67 (.ifCond .ge) := ⟨by decide +kernel, rfl⟩
theorem iX5_isSo_59 : Ins mX5_isSo 59 60 1 (.aload_n 0) := ⟨by decide +kernel, rfl⟩
theorem iX5_isSo_60 : Ins mX5_isSo 60 61 1 (.iload_n 3) := ⟨by decide +kernel, rfl⟩
theorem iX5_isSo_61 : Ins mX5_isSo 61 64 3 (.invokevirtual 119) := ⟨by decide +kernel, rfl⟩
theorem iX5_isSo_64 : InB mX5_isSo 64 67 73 .goto := ⟨by decide +kernel, rfl⟩
theorem iX5_isSo_67 : Ins mX5_isSo 67 68 1 (.aload_n 0) := ⟨by decide +kernel, rfl⟩
theorem iX5_isSo_68 : Ins mX5_isSo 68 69 1 (.iload_n 2) := ⟨by decide +kernel, rfl⟩
theorem iX5_isSo_69 : Ins mX5_isSo 69 70 1 (.iconst 2) := ⟨by decide +kernel, rfl⟩
theorem iX5_isSo_70 : Ins mX5_isSo 70 73 3 (.invokevirtual 112) := ⟨by decide +kernel, rfl⟩
theorem iX5_isSo_73 : InB mX5_isSo 73 76 80 (.if_icmp .ne) := ⟨by decide +kernel, rfl⟩
theorem iX5_isSo_76 : Ins mX5_isSo 76 77 1 (.iconst 1) := ⟨by decide +kernel, rfl⟩
theorem iX5_isSo_77 : InB mX5_isSo 77 80 81 .goto := ⟨by decide +kernel, rfl⟩
theorem iX5_isSo_80 : Ins mX5_isSo 80 81 1 (.iconst 0) := ⟨by decide +kernel, rfl⟩
theorem iX5_isSo_81 : Ins mX5_isSo 81 83 2 (.istore 4) := ⟨by decide +kernel, rfl⟩
theorem iX5_isSo_83 : Ins mX5_isSo 83 84 1 (.aload_n 0) := ⟨by decide +kernel, rfl⟩
theorem iX5_isSo_84 : Ins mX5_isSo 84 87 3 (.invokevirtual 180) := ⟨by decide +kernel, rfl⟩
theorem iX5_isSo_87 : Ins mX5_isSo 87 90 3 (.iinc 5 1) := ⟨by decide +kernel, rfl⟩
theorem iX5_isSo_90 : InB mX5_isSo 90 93 17 .goto := ⟨by decide +kernel, rfl⟩
theorem iX5_isSo_93 : Ins mX5_isSo 93 94 1 (.aload_n 0) := ⟨by decide +kernel, rfl⟩
theorem iX5_isSo_94 : Ins mX5_isSo 94 97 3 (.getfield 16) := ⟨by decide +kernel, rfl⟩
theorem iX5_isSo_97 : Ins mX5_isSo 97 98 1 (.aload_n 0) := ⟨by decide +kernel, rfl⟩
theorem iX5_isSo_98 : Ins mX5_isSo 98 101 3 (.getfield 9) := ⟨by decide +kernel, rfl⟩
theorem iX5_isSo_101 : Ins mX5_isSo 101 104 3 (.invokestatic 61) := ⟨by decide +kernel, rfl⟩
theorem iX5_isSo_104 : Ins mX5_isSo 104 106 2 (.iload 4) := ⟨by decide +kernel, rfl⟩
theorem iX5_isSo_106 : Ins mX5_isSo 106 107 1 (.ireturn) := ⟨by decide +kernel, rfl⟩
theorem iX5_fits_0 : Ins mX5_fits 0 1 1 (.aload_n 0) := ⟨by decide +kernel, rfl⟩
theorem iX5_fits_1 : Ins mX5_fits 1 2 1 (.iload_n 1) := ⟨by decide +kernel, rfl⟩
theorem iX5_fits_2 : Ins mX5_fits 2 3 1 (.aload_n 0) := ⟨by decide +kernel, rfl⟩
theorem iX5_fits_3 : Ins mX5_fits 3 4 1 (.iload_n 2) := ⟨by decide +kernel, rfl⟩
theorem iX5_fits_4 : Ins mX5_fits 4 7 3 (.invokevirtual 131) := ⟨by decide +kernel, rfl⟩
theorem iX5_fits_7 : Ins mX5_fits 7 10 3 (.invokevirtual 236) := ⟨by decide +kernel, rfl⟩
theorem iX5_fits_10 : Ins mX5_fits 10 11 1 (.istore_n 3) := ⟨by decide +kernel, rfl⟩
theorem iX5_fits_11 : Ins mX5_fits 11 12 1 (.iload_n 3) := ⟨by decide +kernel, rfl⟩
theorem iX5_fits_12 : InB mX5_fits 12 15 21 (.ifCond .eq) := ⟨by decide +kernel, rfl⟩
theorem iX5_fits_15 : Ins mX5_fits 15 16 1 (.aload_n 0) := ⟨by decide +kernel, rfl⟩
theorem iX5_fits_16 : Ins mX5_fits 16 17 1 (.iload_n 3) := ⟨by decide +kernel, rfl⟩
theorem iX5_fits_17 : Ins mX5_fits 17 20 3 (.invokevirtual 66) := ⟨by decide +kernel, rfl⟩
theorem iX5_fits_20 : Ins mX5_fits 20 21 1 (.ireturn) := ⟨by decide +kernel, rfl⟩
theorem iX5_fits_21 : Ins mX5_fits 21 22 1 (.aload_n 0) := ⟨by decide +kernel, rfl⟩
theorem iX5_fits_22 : Ins mX5_fits 22 25 3 (.invokevirtual 173) := ⟨by decide +kernel, rfl⟩
theorem iX5_fits_25 : Ins mX5_fits 25 27 2 (.istore 4) := ⟨by decide +kernel, rfl⟩
theorem iX5_fits_27 : Ins mX5_fits 27 28 1 (.aload_n 0) := ⟨by decide +kernel, rfl⟩
theorem iX5_fits_28 : Ins mX5_fits 28 31 3 (.getfield 9) := ⟨by decide +kernel, rfl⟩
theorem iX5_fits_31 : Ins mX5_fits 31 33 2 (.iload 4) := ⟨by decide +kernel, rfl⟩
theorem iX5_fits_33 : Ins mX5_fits 33 34 1 (.iaload) := ⟨by decide +kernel, rfl⟩
theorem iX5_fits_34 : Ins mX5_fits 34 36 2 (.istore 5) := ⟨by decide +kernel, rfl⟩
theorem iX5_fits_36 : Ins mX5_fits 36 37 1 (.iconst 0) := ⟨by decide +kernel, rfl⟩
theorem iX5_fits_37 : Ins mX5_fits 37 39 2 (.istore 6) := ⟨by decide +kernel, rfl⟩
theorem iX5_fits_39 : Ins mX5_fits 39 40 1 (.iconst 0) := ⟨by decide +kernel, rfl⟩
theorem iX5_fits_40 : Ins mX5_fits 40 42 2 (.istore 7) := ⟨by decide +kernel, rfl⟩
theorem iX5_fits_42 : Ins mX5_fits 42 44 2 (.iload 7) := ⟨by decide +kernel, rfl⟩
theorem iX5_fits_44 : Ins mX5_fits 44 46 2 (.bipush 64) := ⟨by decide +kernel, rfl⟩
theorem iX5_fits_46 : InB mX5_fits 46 49 96 (.if_icmp .ge) := ⟨by decide +kernel, rfl⟩
theorem iX5_fits_49 : Ins mX5_fits 49 50 1 (.aload_n 0) := ⟨by decide +kernel, rfl⟩
theorem iX5_fits_50 : Ins mX5_fits 50 53 3 (.getfield 9) := ⟨by decide +kernel, rfl⟩
theorem iX5_fits_53 : Ins mX5_fits 53 55 2 (.iload 4) := ⟨by decide +kernel, rfl⟩
theorem iX5_fits_55 : Ins mX5_fits 55 57 2 (.iload 7) := ⟨by decide +kernel, rfl⟩
theorem iX5_fits_57 : Ins mX5_fits 57 59 2 (.bipush 8) := ⟨by decide +kernel, rfl⟩
theorem iX5_fits_59 : Ins mX5_fits 59 60 1 (.idiv) := ⟨by decide +kernel, rfl⟩
theorem iX5_fits_60 : Ins mX5_fits 60 62 2 (.bipush 10) := ⟨by decide +kernel, rfl⟩
theorem iX5_fits_62 : Ins mX5_fits 62 63 1 (.imul) := ⟨by decide +kernel, rfl⟩
theorem iX5_fits_63 : Ins mX5_fits 63 65 2 (.iload 7) := ⟨by decide +kernel, rfl⟩
theorem iX5_fits_65 : Ins mX5_fits 65 67 2 (.bipush 8) := ⟨by decide +kernel, rfl⟩
theorem iX5_fits_67 : Ins mX5_fits 67 68 1 (.irem) := ⟨by decide +kernel, rfl⟩
theorem iX5_fits_68 : Ins mX5_fits 68 69 1 (.iadd) := ⟨by decide +kernel, rfl⟩
theorem iX5_fits_69 : Ins mX5_fits 69 70 1 (.iastore) := ⟨by decide +kernel, rfl⟩
theorem iX5_fits_70 : Ins mX5_fits 70 72 2 (.iload 6) := ⟨by decide +kernel, rfl⟩
theorem iX5_fits_72 : Ins mX5_fits 72 73 1 (.aload_n 0) := ⟨by decide +kernel, rfl⟩
theorem iX5_fits_73 : Ins mX5_fits 73 74 1 (.iload_n 1) := ⟨by decide +kernel, rfl⟩
theorem iX5_fits_74 : Ins mX5_fits 74 75 1 (.iload_n 2) := ⟨by decide +kernel, rfl⟩
theorem iX5_fits_75 : Ins mX5_fits 75 76 1 (.iconst 0) := ⟨by decide +kernel, rfl⟩
theorem iX5_fits_76 : Ins mX5_fits 76 79 3 (.invokevirtual 240) := ⟨by decide +kernel, rfl⟩
theorem iX5_fits_79 : InB mX5_fits 79 82 86 (.ifCond .eq) := ⟨by decide +kernel, rfl⟩
theorem iX5_fits_82 : Ins mX5_fits 82 83 1 (.iconst 1) := ⟨by decide +kernel, rfl⟩
theorem iX5_fits_83 : InB mX5_fits 83 86 87 .goto := ⟨by decide +kernel, rfl⟩
theorem iX5_fits_86 : Ins mX5_fits 86 87 1 (.iconst 0) := ⟨by decide +kernel, rfl⟩
theorem iX5_fits_87 : Ins mX5_fits 87 88 1 (.iadd) := ⟨by decide +kernel, rfl⟩
theorem iX5_fits_88 : Ins mX5_fits 88 90 2 (.istore 6) := ⟨by decide +kernel, rfl⟩
theorem iX5_fits_90 : Ins mX5_fits 90 93 3 (.iinc 7 1) := ⟨by decide +kernel, rfl⟩
theorem iX5_fits_93 : InB mX5_fits 93 96 42 .goto := ⟨by decide +kernel, rfl⟩
theorem iX5_fits_96 : Ins mX5_fits 96 97 1 (.aload_n 0) := ⟨by decide +kernel, rfl⟩
theorem iX5_fits_97 : Ins mX5_fits 97 100 3 (.getfield 9) := ⟨by decide +kernel, rfl⟩
theorem iX5_fits_100 : Ins mX5_fits 100 102 2 (.iload 4) := ⟨by decide +kernel, rfl⟩
theorem iX5_fits_102 : Ins mX5_fits 102 104 2 (.iload 5) := ⟨by decide +kernel, rfl⟩
theorem iX5_fits_104 : Ins mX5_fits 104 105 1 (.iastore) := ⟨by decide +kernel, rfl⟩
theorem iX5_fits_105 : Ins mX5_fits 105 107 2 (.iload 6) := ⟨by decide +kernel, rfl⟩
theorem iX5_fits_107 : Ins mX5_fits 107 108 1 (.ireturn) := ⟨by decide +kernel, rfl⟩
theorem iX5_kinds_0 : Ins mX5_kinds 0 1 1 (.aload_n 0) := ⟨by decide +kernel, rfl⟩
theorem iX5_kinds_1 : Ins mX5_kinds 1 2 1 (.iload_n 1) := ⟨by decide +kernel, rfl⟩
theorem iX5_kinds_2 : Ins mX5_kinds 2 3 1 (.aload_n 0) := ⟨by decide +kernel, rfl⟩
theorem iX5_kinds_3 : Ins mX5_kinds 3 4 1 (.iload_n 2) := ⟨by decide +kernel, rfl⟩
theorem iX5_kinds_4 : Ins mX5_kinds 4 7 3 (.invokevirtual 105) := ⟨by decide +kernel, rfl⟩
theorem iX5_kinds_7 : Ins mX5_kinds 7 10 3 (.invokevirtual 236) := ⟨by decide +kernel, rfl⟩
theorem iX5_kinds_10 : Ins mX5_kinds 10 11 1 (.istore_n 3) := ⟨by decide +kernel, rfl⟩
theorem iX5_kinds_11 : Ins mX5_kinds 11 12 1 (.iload_n 3) := ⟨by decide +kernel, rfl⟩
theorem iX5_kinds_12 : InB mX5_kinds 12 15 21 (.ifCond .eq) := ⟨by decide +kernel, rfl⟩
theorem iX5_kinds_15 : Ins mX5_kinds 15 16 1 (.aload_n 0) := ⟨by decide +kernel, rfl⟩
theorem iX5_kinds_16 : Ins mX5_kinds 16 17 1 (.iload_n 3) := ⟨by decide +kernel, rfl⟩
theorem iX5_kinds_17 : Ins mX5_kinds 17 20 3 (.invokevirtual 66) := ⟨by decide +kernel, rfl⟩
theorem iX5_kinds_20 : Ins mX5_kinds 20 21 1 (.ireturn) := ⟨by decide +kernel, rfl⟩
theorem iX5_kinds_21 : Ins mX5_kinds 21 22 1 (.iload_n 2) := ⟨by decide +kernel, rfl⟩
theorem iX5_kinds_22 : Ins mX5_kinds 22 23 1 (.iconst 0) := ⟨by decide +kernel, rfl⟩
theorem iX5_kinds_23 : Ins mX5_kinds 23 26 3 (.invokestatic 85) := ⟨by decide +kernel, rfl⟩
theorem iX5_kinds_26 : Ins mX5_kinds 26 28 2 (.istore 4) := ⟨by decide +kernel, rfl⟩
theorem iX5_kinds_28 : Ins mX5_kinds 28 29 1 (.aload_n 0) := ⟨by decide +kernel, rfl⟩
theorem iX5_kinds_29 : Ins mX5_kinds 29 32 3 (.getfield 9) := ⟨by decide +kernel, rfl⟩
theorem iX5_kinds_32 : Ins mX5_kinds 32 34 2 (.iload 4) := ⟨by decide +kernel, rfl⟩
theorem iX5_kinds_34 : Ins mX5_kinds 34 35 1 (.iaload) := ⟨by decide +kernel, rfl⟩
theorem iX5_kinds_35 : Ins mX5_kinds 35 37 2 (.istore 5) := ⟨by decide +kernel, rfl⟩
theorem iX5_kinds_37 : Ins mX5_kinds 37 38 1 (.iconst 0) := ⟨by decide +kernel, rfl⟩
theorem iX5_kinds_38 : Ins mX5_kinds 38 40 2 (.istore 6) := ⟨by decide +kernel, rfl⟩
theorem iX5_kinds_40 : Ins mX5_kinds 40 41 1 (.iconst 0) := ⟨by decide +kernel, rfl⟩
theorem iX5_kinds_41 : Ins mX5_kinds 41 43 2 (.istore 7) := ⟨by decide +kernel, rfl⟩
theorem iX5_kinds_43 : Ins mX5_kinds 43 45 2 (.iload 7) := ⟨by decide +kernel, rfl⟩
theorem iX5_kinds_45 : Ins mX5_kinds 45 47 2 (.bipush 6) := ⟨by decide +kernel, rfl⟩
theorem iX5_kinds_47 : InB mX5_kinds 47 50 88 (.if_icmp .gt) := ⟨by decide +kernel, rfl⟩
theorem iX5_kinds_50 : Ins mX5_kinds 50 51 1 (.aload_n 0) := ⟨by decide +kernel, rfl⟩
theorem iX5_kinds_51 : Ins mX5_kinds 51 54 3 (.getfield 9) := ⟨by decide +kernel, rfl⟩
theorem iX5_kinds_54 : Ins mX5_kinds 54 56 2 (.iload 4) := ⟨by decide +kernel, rfl⟩
theorem iX5_kinds_56 : Ins mX5_kinds 56 58 2 (.iload 7) := ⟨by decide +kernel, rfl⟩
theorem iX5_kinds_58 : Ins mX5_kinds 58 59 1 (.iastore) := ⟨by decide +kernel, rfl⟩
theorem iX5_kinds_59 : Ins mX5_kinds 59 61 2 (.iload 6) := ⟨by decide +kernel, rfl⟩
theorem iX5_kinds_61 : Ins mX5_kinds 61 62 1 (.aload_n 0) := ⟨by decide +kernel, rfl⟩
theorem iX5_kinds_62 : Ins mX5_kinds 62 63 1 (.iload_n 1) := ⟨by decide +kernel, rfl⟩
theorem iX5_kinds_63 : Ins mX5_kinds 63 64 1 (.iconst (-1)) := ⟨by decide +kernel, rfl⟩
theorem iX5_kinds_64 : Ins mX5_kinds 64 65 1 (.iload_n 2) := ⟨by decide +kernel, rfl⟩
theorem iX5_kinds_65 : Ins mX5_kinds 65 68 3 (.invokevirtual 240) := ⟨by decide +kernel, rfl⟩
theorem iX5_kinds_68 : InB mX5_kinds 68 71 78 (.ifCond .eq) := ⟨by decide +kernel, rfl⟩
theorem iX5_kinds_71 : Ins mX5_kinds 71 72 1 (.iconst 1) := ⟨by decide +kernel, rfl⟩
theorem iX5_kinds_72 : Ins mX5_kinds 72 74 2 (.iload 7) := ⟨by decide +kernel, rfl⟩
theorem iX5_kinds_74 : Ins mX5_kinds 74 75 1 (.ishl) := ⟨by decide +kernel, rfl⟩
theorem iX5_kinds_75 : InB mX5_kinds 75 78 79 .goto := ⟨by decide +kernel, rfl⟩
theorem iX5_kinds_78 : Ins mX5_kinds 78 79 1 (.iconst 0) := ⟨by decide +kernel, rfl⟩
theorem iX5_kinds_79 : Ins mX5_kinds 79 80 1 (.ior) := ⟨by decide +kernel, rfl⟩
theorem iX5_kinds_80 : Ins mX5_kinds 80 82 2 (.istore 6) := ⟨by decide +kernel, rfl⟩
theorem iX5_kinds_82 : Ins mX5_kinds 82 85 3 (.iinc 7 1) := ⟨by decide +kernel, rfl⟩
theorem iX5_kinds_85 : InB mX5_kinds 85 88 43 .goto := ⟨by decide +kernel, rfl⟩
theorem iX5_kinds_88 : Ins mX5_kinds 88 89 1 (.aload_n 0) := ⟨by decide +kernel, rfl⟩
theorem iX5_kinds_89 : Ins mX5_kinds 89 92 3 (.getfield 9) := ⟨by decide +kernel, rfl⟩
theorem iX5_kinds_92 : Ins mX5_kinds 92 94 2 (.iload 4) := ⟨by decide +kernel, rfl⟩
theorem iX5_kinds_94 : Ins mX5_kinds 94 96 2 (.iload 5) := ⟨by decide +kernel, rfl⟩
theorem iX5_kinds_96 : Ins mX5_kinds 96 97 1 (.iastore) := ⟨by decide +kernel, rfl⟩
theorem iX5_kinds_97 : Ins mX5_kinds 97 99 2 (.iload 6) := ⟨by decide +kernel, rfl⟩
theorem iX5_kinds_99 : Ins mX5_kinds 99 100 1 (.ireturn) := ⟨by decide +kernel, rfl⟩
theorem iX5_drawn_0 : Ins mX5_drawn 0 1 1 (.aload_n 0) := ⟨by decide +kernel, rfl⟩
theorem iX5_drawn_1 : Ins mX5_drawn 1 4 3 (.getfield 9) := ⟨by decide +kernel, rfl⟩
theorem iX5_drawn_4 : Ins mX5_drawn 4 5 1 (.iconst 2) := ⟨by decide +kernel, rfl⟩
theorem iX5_drawn_5 : Ins mX5_drawn 5 6 1 (.aload_n 0) := ⟨by decide +kernel, rfl⟩
theorem iX5_drawn_6 : Ins mX5_drawn 6 9 3 (.getfield 9) := ⟨by decide +kernel, rfl⟩
theorem iX5_drawn_9 : Ins mX5_drawn 9 10 1 (.iconst 2) := ⟨by decide +kernel, rfl⟩
theorem iX5_drawn_10 : Ins mX5_drawn 10 11 1 (.iaload) := ⟨by decide +kernel, rfl⟩
theorem iX5_drawn_11 : Ins mX5_drawn 11 13 2 (.ldc 243) := ⟨by decide +kernel, rfl⟩
theorem iX5_drawn_13 : Ins mX5_drawn 13 14 1 (.imul) := ⟨by decide +kernel, rfl⟩
theorem iX5_drawn_14 : Ins mX5_drawn 14 17 3 (.sipush 12345) := ⟨by decide +kernel, rfl⟩
theorem iX5_drawn_17 : Ins mX5_drawn 17 18 1 (.iadd) := ⟨by decide +kernel, rfl⟩
theorem iX5_drawn_18 : Ins mX5_drawn 18 19 1 (.iastore) := ⟨by decide +kernel, rfl⟩
theorem iX5_drawn_19 : Ins mX5_drawn 19 20 1 (.aload_n 0) := ⟨by decide +kernel, rfl⟩
theorem iX5_drawn_20 : Ins mX5_drawn 20 23 3 (.getfield 9) := ⟨by decide +kernel, rfl⟩
theorem iX5_drawn_23 : Ins mX5_drawn 23 24 1 (.iconst 2) := ⟨by decide +kernel, rfl⟩
theorem iX5_drawn_24 : Ins mX5_drawn 24 25 1 (.iaload) := ⟨by decide +kernel, rfl⟩
theorem iX5_drawn_25 : Ins mX5_drawn 25 27 2 (.bipush 8) := ⟨by decide +kernel, rfl⟩
theorem iX5_drawn_27 : Ins mX5_drawn 27 28 1 (.iushr) := ⟨by decide +kernel, rfl⟩
theorem iX5_drawn_28 : Ins mX5_drawn 28 29 1 (.ireturn) := ⟨by decide +kernel, rfl⟩
theorem iX5_evening_0 : Ins mX5_evening 0 1 1 (.iload_n 1) := ⟨by decide +kernel, rfl⟩
theorem iX5_evening_1 : Ins mX5_evening 1 2 1 (.iconst 1) := ⟨by decide +kernel, rfl⟩
theorem iX5_evening_2 : Ins mX5_evening 2 4 2 (.bipush 20) := ⟨by decide +kernel, rfl⟩
theorem iX5_evening_4 : Ins mX5_evening 4 7 3 (.invokestatic 70) := ⟨by decide +kernel, rfl⟩
theorem iX5_evening_7 : InB mX5_evening 7 10 17 (.ifCond .ne) := ⟨by decide +kernel, rfl⟩
theorem iX5_evening_10 : Ins mX5_evening 10 11 1 (.aload_n 0) := ⟨by decide +kernel, rfl⟩
theorem iX5_evening_11 : Ins mX5_evening 11 13 2 (.ldc 60) := ⟨by decide +kernel, rfl⟩
theorem iX5_evening_13 : Ins mX5_evening 13 16 3 (.invokevirtual 66) := ⟨by decide +kernel, rfl⟩
theorem iX5_evening_16 : Ins mX5_evening 16 17 1 (.ireturn) := ⟨by decide +kernel, rfl⟩
theorem iX5_evening_17 : Ins mX5_evening 17 18 1 (.aload_n 0) := ⟨by decide +kernel, rfl⟩
theorem iX5_evening_18 : Ins mX5_evening 18 21 3 (.getfield 9) := ⟨by decide +kernel, rfl⟩
theorem iX5_evening_21 : Ins mX5_evening 21 22 1 (.iconst 0) := ⟨by decide +kernel, rfl⟩
theorem iX5_evening_22 : Ins mX5_evening 22 23 1 (.iaload) := ⟨by decide +kernel, rfl⟩
theorem iX5_evening_23 : Ins mX5_evening 23 24 1 (.iload_n 1) := ⟨by decide +kernel, rfl⟩
theorem iX5_evening_24 : Ins mX5_evening 24 25 1 (.iadd) := ⟨by decide +kernel, rfl⟩
theorem iX5_evening_25 : Ins mX5_evening 25 27 2 (.ldc 172) := ⟨by decide +kernel, rfl⟩
theorem iX5_evening_27 : InB mX5_evening 27 30 37 (.if_icmp .le) := ⟨by decide +kernel, rfl⟩
theorem iX5_evening_30 : Ins mX5_evening 30 31 1 (.aload_n 0) := ⟨by decide +kernel, rfl⟩
theorem iX5_evening_31 : Ins mX5_evening 31 33 2 (.ldc 152) := ⟨by decide +kernel, rfl⟩
theorem iX5_evening_33 : Ins mX5_evening 33 36 3 (.invokevirtual 66) := ⟨by decide +kernel, rfl⟩
theorem iX5_evening_36 : Ins mX5_evening 36 37 1 (.ireturn) := ⟨by decide +kernel, rfl⟩
theorem iX5_evening_37 : Ins mX5_evening 37 38 1 (.iconst 0) := ⟨by decide +kernel, rfl⟩
theorem iX5_evening_38 : Ins mX5_evening 38 39 1 (.istore_n 2) := ⟨by decide +kernel, rfl⟩
theorem iX5_evening_39 : Ins mX5_evening 39 40 1 (.iload_n 2) := ⟨by decide +kernel, rfl⟩
theorem iX5_evening_40 : Ins mX5_evening 40 41 1 (.iload_n 1) := ⟨by decide +kernel, rfl⟩
theorem iX5_evening_41 : InB mX5_evening 41 44 87 (.if_icmp .ge) := ⟨by decide +kernel, rfl⟩
theorem iX5_evening_44 : Ins mX5_evening 44 45 1 (.aload_n 0) := ⟨by decide +kernel, rfl⟩
theorem iX5_evening_45 : Ins mX5_evening 45 48 3 (.invokevirtual 244) := ⟨by decide +kernel, rfl⟩
theorem iX5_evening_48 : Ins mX5_evening 48 50 2 (.bipush 8) := ⟨by decide +kernel, rfl⟩
theorem iX5_evening_50 : Ins mX5_evening 50 51 1 (.irem) := ⟨by decide +kernel, rfl⟩
theorem iX5_evening_51 : Ins mX5_evening 51 52 1 (.istore_n 3) := ⟨by decide +kernel, rfl⟩
theorem iX5_evening_52 : Ins mX5_evening 52 53 1 (.aload_n 0) := ⟨by decide +kernel, rfl⟩
theorem iX5_evening_53 : Ins mX5_evening 53 56 3 (.invokevirtual 244) := ⟨by decide +kernel, rfl⟩
theorem iX5_evening_56 : Ins mX5_evening 56 58 2 (.bipush 8) := ⟨by decide +kernel, rfl⟩
theorem iX5_evening_58 : Ins mX5_evening 58 59 1 (.irem) := ⟨by decide +kernel, rfl⟩
theorem iX5_evening_59 : Ins mX5_evening 59 61 2 (.istore 4) := ⟨by decide +kernel, rfl⟩
theorem iX5_evening_61 : Ins mX5_evening 61 62 1 (.aload_n 0) := ⟨by decide +kernel, rfl⟩
theorem iX5_evening_62 : Ins mX5_evening 62 65 3 (.getfield 9) := ⟨by decide +kernel, rfl⟩
theorem iX5_evening_65 : Ins mX5_evening 65 66 1 (.aload_n 0) := ⟨by decide +kernel, rfl⟩
theorem iX5_evening_66 : Ins mX5_evening 66 69 3 (.invokevirtual 173) := ⟨by decide +kernel, rfl⟩
theorem iX5_evening_69 : Ins mX5_evening 69 71 2 (.bipush 10) := ⟨by decide +kernel, rfl⟩
theorem iX5_evening_71 : Ins mX5_evening 71 72 1 (.iload_n 3) := ⟨by decide +kernel, rfl⟩
theorem iX5_evening_72 : Ins mX5_evening 72 73 1 (.imul) := ⟨by decide +kernel, rfl⟩
theorem iX5_evening_73 : Ins mX5_evening 73 75 2 (.iload 4) := ⟨by decide +kernel, rfl⟩
theorem iX5_evening_75 : Ins mX5_evening 75 76 1 (.iadd) := ⟨by decide +kernel, rfl⟩
theorem iX5_evening_76 : Ins mX5_evening 76 77 1 (.iastore) := ⟨by decide +kernel, rfl⟩
theorem iX5_evening_77 : Ins mX5_evening 77 78 1 (.aload_n 0) := ⟨by decide +kernel, rfl⟩
theorem iX5_evening_78 : Ins mX5_evening 78 81 3 (.invokevirtual 180) := ⟨by decide +kernel, rfl⟩
theorem iX5_evening_81 : Ins mX5_evening 81 84 3 (.iinc 2 1) := ⟨by decide +kernel, rfl⟩
theorem iX5_evening_84 : InB mX5_evening 84 87 39 .goto := ⟨by decide +kernel, rfl⟩
theorem iX5_evening_87 : Ins mX5_evening 87 88 1 (.aload_n 0) := ⟨by decide +kernel, rfl⟩
theorem iX5_evening_88 : Ins mX5_evening 88 91 3 (.getfield 9) := ⟨by decide +kernel, rfl⟩
theorem iX5_evening_91 : Ins mX5_evening 91 92 1 (.iconst 4) := ⟨by decide +kernel, rfl⟩
theorem iX5_evening_92 : Ins mX5_evening 92 93 1 (.iaload) := ⟨by decide +kernel, rfl⟩
theorem iX5_evening_93 : Ins mX5_evening 93 94 1 (.ireturn) := ⟨by decide +kernel, rfl⟩
theorem iX5_odds_0 : Ins mX5_odds 0 1 1 (.aload_n 0) := ⟨by decide +kernel, rfl⟩
theorem iX5_odds_1 : Ins mX5_odds 1 2 1 (.iload_n 1) := ⟨by decide +kernel, rfl⟩
theorem iX5_odds_2 : Ins mX5_odds 2 5 3 (.invokevirtual 131) := ⟨by decide +kernel, rfl⟩
theorem iX5_odds_5 : InB mX5_odds 5 8 36 (.ifCond .eq) := ⟨by decide +kernel, rfl⟩
theorem iX5_odds_8 : Ins mX5_odds 8 9 1 (.aload_n 0) := ⟨by decide +kernel, rfl⟩
theorem iX5_odds_9 : Ins mX5_odds 9 10 1 (.iload_n 2) := ⟨by decide +kernel, rfl⟩
theorem iX5_odds_10 : Ins mX5_odds 10 13 3 (.invokevirtual 105) := ⟨by decide +kernel, rfl⟩
theorem iX5_odds_13 : InB mX5_odds 13 16 36 (.ifCond .eq) := ⟨by decide +kernel, rfl⟩
theorem iX5_odds_16 : Ins mX5_odds 16 17 1 (.iload_n 3) := ⟨by decide +kernel, rfl⟩
theorem iX5_odds_17 : Ins mX5_odds 17 18 1 (.iconst 0) := ⟨by decide +kernel, rfl⟩
theorem iX5_odds_18 : Ins mX5_odds 18 20 2 (.bipush 18) := ⟨by decide +kernel, rfl⟩
theorem iX5_odds_20 : Ins mX5_odds 20 23 3 (.invokestatic 70) := ⟨by decide +kernel, rfl⟩
theorem iX5_odds_23 : InB mX5_odds 23 26 36 (.ifCond .eq) := ⟨by decide +kernel, rfl⟩
theorem iX5_odds_26 : Ins mX5_odds 26 28 2 (.iload 4) := ⟨by decide +kernel, rfl⟩
theorem iX5_odds_28 : Ins mX5_odds 28 29 1 (.iconst 0) := ⟨by decide +kernel, rfl⟩
theorem iX5_odds_29 : Ins mX5_odds 29 30 1 (.iconst 1) := ⟨by decide +kernel, rfl⟩
theorem iX5_odds_30 : Ins mX5_odds 30 33 3 (.invokestatic 70) := ⟨by decide +kernel, rfl⟩
theorem iX5_odds_33 : InB mX5_odds 33 36 44 (.ifCond .ne) := ⟨by decide +kernel, rfl⟩
theorem iX5_odds_36 : Ins mX5_odds 36 37 1 (.aload_n 0) := ⟨by decide +kernel, rfl⟩
theorem iX5_odds_37 : Ins mX5_odds 37 39 2 (.ldc 60) := ⟨by decide +kernel, rfl⟩
theorem iX5_odds_39 : Ins mX5_odds 39 42 3 (.invokevirtual 66) := ⟨by decide +kernel, rfl⟩
theorem iX5_odds_42 : Ins mX5_odds 42 43 1 (.i2l) := ⟨by decide +kernel, rfl⟩
theorem iX5_odds_43 : Ins mX5_odds 43 44 1 (.lreturn) := ⟨by decide +kernel, rfl⟩
theorem iX5_odds_44 : Ins mX5_odds 44 45 1 (.iload_n 1) := ⟨by decide +kernel, rfl⟩
theorem iX5_odds_45 : Ins mX5_odds 45 46 1 (.iconst 1) := ⟨by decide +kernel, rfl⟩
theorem iX5_odds_46 : Ins mX5_odds 46 49 3 (.invokestatic 88) := ⟨by decide +kernel, rfl⟩
theorem iX5_odds_49 : Ins mX5_odds 49 51 2 (.istore 5) := ⟨by decide +kernel, rfl⟩
theorem iX5_odds_51 : Ins mX5_odds 51 52 1 (.aload_n 0) := ⟨by decide +kernel, rfl⟩
theorem iX5_odds_52 : Ins mX5_odds 52 55 3 (.getfield 9) := ⟨by decide +kernel, rfl⟩
theorem iX5_odds_55 : Ins mX5_odds 55 57 2 (.iload 5) := ⟨by decide +kernel, rfl⟩
theorem iX5_odds_57 : Ins mX5_odds 57 58 1 (.iaload) := ⟨by decide +kernel, rfl⟩
theorem iX5_odds_58 : Ins mX5_odds 58 60 2 (.istore 6) := ⟨by decide +kernel, rfl⟩
theorem iX5_odds_60 : Ins mX5_odds 60 61 1 (.iconst 0) := ⟨by decide +kernel, rfl⟩
theorem iX5_odds_61 : Ins mX5_odds 61 63 2 (.istore 7) := ⟨by decide +kernel, rfl⟩
theorem iX5_odds_63 : Ins mX5_odds 63 64 1 (.iconst 0) := ⟨by decide +kernel, rfl⟩
theorem iX5_odds_64 : Ins mX5_odds 64 66 2 (.istore 8) := ⟨by decide +kernel, rfl⟩
theorem iX5_odds_66 : Ins mX5_odds 66 68 2 (.iload 8) := ⟨by decide +kernel, rfl⟩
theorem iX5_odds_68 : Ins mX5_odds 68 70 2 (.bipush 10) := ⟨by decide +kernel, rfl⟩
theorem iX5_odds_70 : InB mX5_odds 70 73 107 (.if_icmp .ge) := ⟨by decide +kernel, rfl⟩
theorem iX5_odds_73 : Ins mX5_odds 73 74 1 (.aload_n 0) := ⟨by decide +kernel, rfl⟩
theorem iX5_odds_74 : Ins mX5_odds 74 77 3 (.getfield 9) := ⟨by decide +kernel, rfl⟩
theorem iX5_odds_77 : Ins mX5_odds 77 79 2 (.iload 5) := ⟨by decide +kernel, rfl⟩
theorem iX5_odds_79 : Ins mX5_odds 79 81 2 (.iload 8) := ⟨by decide +kernel, rfl⟩
theorem iX5_odds_81 : Ins mX5_odds 81 82 1 (.iastore) := ⟨by decide +kernel, rfl⟩
theorem iX5_odds_82 : Ins mX5_odds 82 84 2 (.iload 7) := ⟨by decide +kernel, rfl⟩
theorem iX5_odds_84 : Ins mX5_odds 84 85 1 (.aload_n 0) := ⟨by decide +kernel, rfl⟩
theorem iX5_odds_85 : Ins mX5_odds 85 86 1 (.iload_n 2) := ⟨by decide +kernel, rfl⟩
theorem iX5_odds_86 : Ins mX5_odds 86 87 1 (.iload_n 1) := ⟨by decide +kernel, rfl⟩
theorem iX5_odds_87 : Ins mX5_odds 87 90 3 (.invokevirtual 140) := ⟨by decide +kernel, rfl⟩
theorem iX5_odds_90 : InB mX5_odds 90 93 97 (.ifCond .eq) := ⟨by decide +kernel, rfl⟩
theorem iX5_odds_93 : Ins mX5_odds 93 94 1 (.iconst 1) := ⟨by decide +kernel, rfl⟩
theorem iX5_odds_94 : InB mX5_odds 94 97 98 .goto := ⟨by decide +kernel, rfl⟩
theorem iX5_odds_97 : Ins mX5_odds 97 98 1 (.iconst 0) := ⟨by decide +kernel, rfl⟩
theorem iX5_odds_98 : Ins mX5_odds 98 99 1 (.iadd) := ⟨by decide +kernel, rfl⟩
theorem iX5_odds_99 : Ins mX5_odds 99 101 2 (.istore 7) := ⟨by decide +kernel, rfl⟩
theorem iX5_odds_101 : Ins mX5_odds 101 104 3 (.iinc 8 1) := ⟨by decide +kernel, rfl⟩
theorem iX5_odds_104 : InB mX5_odds 104 107 66 .goto := ⟨by decide +kernel, rfl⟩
theorem iX5_odds_107 : Ins mX5_odds 107 108 1 (.aload_n 0) := ⟨by decide +kernel, rfl⟩
theorem iX5_odds_108 : Ins mX5_odds 108 111 3 (.getfield 9) := ⟨by decide +kernel, rfl⟩
theorem iX5_odds_111 : Ins mX5_odds 111 113 2 (.iload 5) := ⟨by decide +kernel, rfl⟩
theorem iX5_odds_113 : Ins mX5_odds 113 115 2 (.iload 6) := ⟨by decide +kernel, rfl⟩
theorem iX5_odds_115 : Ins mX5_odds 115 116 1 (.iastore) := ⟨by decide +kernel, rfl⟩
theorem iX5_odds_116 : Ins mX5_odds 116 118 2 (.bipush 10) := ⟨by decide +kernel, rfl⟩
theorem iX5_odds_118 : Ins mX5_odds 118 120 2 (.istore 8) := ⟨by decide +kernel, rfl⟩
theorem iX5_odds_120 : Ins mX5_odds 120 122 2 (.iload 7) := ⟨by decide +kernel, rfl⟩
theorem iX5_odds_122 : Ins mX5_odds 122 124 2 (.istore 9) := ⟨by decide +kernel, rfl⟩
theorem iX5_odds_124 : Ins mX5_odds 124 126 2 (.iload 9) := ⟨by decide +kernel, rfl⟩
theorem iX5_odds_126 : InB mX5_odds 126 129 147 (.ifCond .eq) := ⟨by decide +kernel, rfl⟩
theorem iX5_odds_129 : Ins mX5_odds 129 131 2 (.iload 8) := ⟨by decide +kernel, rfl⟩
theorem iX5_odds_131 : Ins mX5_odds 131 133 2 (.iload 9) := ⟨by decide +kernel, rfl⟩
theorem iX5_odds_133 : Ins mX5_odds 133 134 1 (.irem) := ⟨by decide +kernel, rfl⟩
theorem iX5_odds_134 : Ins mX5_odds 134 136 2 (.istore 10) := ⟨by decide +kernel, rfl⟩
theorem iX5_odds_136 : Ins mX5_odds 136 138 2 (.iload 9) := ⟨by decide +kernel, rfl⟩
theorem iX5_odds_138 : Ins mX5_odds 138 140 2 (.istore 8) := ⟨by decide +kernel, rfl⟩
theorem iX5_odds_140 : Ins mX5_odds 140 142 2 (.iload 10) := ⟨by decide +kernel, rfl⟩
theorem iX5_odds_142 : Ins mX5_odds 142 144 2 (.istore 9) := ⟨by decide +kernel, rfl⟩
theorem iX5_odds_144 : InB mX5_odds 144 147 124 .goto := ⟨by decide +kernel, rfl⟩
theorem iX5_odds_147 : Ins mX5_odds 147 148 1 (.lconst 1) := ⟨by decide +kernel, rfl⟩
theorem iX5_odds_148 : Ins mX5_odds 148 150 2 (.lstore 10) := ⟨by decide +kernel, rfl⟩
theorem iX5_odds_150 : Ins mX5_odds 150 151 1 (.iconst 0) := ⟨by decide +kernel, rfl⟩
theorem iX5_odds_151 : Ins mX5_odds 151 153 2 (.istore 12) := ⟨by decide +kernel, rfl⟩
theorem iX5_odds_153 : Ins mX5_odds 153 155 2 (.iload 12) := ⟨by decide +kernel, rfl⟩
theorem iX5_odds_155 : Ins mX5_odds 155 156 1 (.iload_n 3) := ⟨by decide +kernel, rfl⟩
theorem iX5_odds_156 : InB mX5_odds 156 159 186 (.if_icmp .ge) := ⟨by decide +kernel, rfl⟩
theorem iX5_odds_159 : Ins mX5_odds 159 161 2 (.lload 10) := ⟨by decide +kernel, rfl⟩
theorem iX5_odds_161 : Ins mX5_odds 161 163 2 (.iload 4) := ⟨by decide +kernel, rfl⟩
theorem iX5_odds_163 : InB mX5_odds 163 166 171 (.ifCond .ne) := ⟨by decide +kernel, rfl⟩
theorem iX5_odds_166 : Ins mX5_odds 166 168 2 (.iload 7) := ⟨by decide +kernel, rfl⟩
theorem iX5_odds_168 : InB mX5_odds 168 171 173 .goto := ⟨by decide +kernel, rfl⟩
theorem iX5_odds_171 : Ins mX5_odds 171 173 2 (.bipush 10) := ⟨by decide +kernel, rfl⟩
theorem iX5_odds_173 : Ins mX5_odds 173 175 2 (.iload 8) := ⟨by decide +kernel, rfl⟩
theorem iX5_odds_175 : Ins mX5_odds 175 176 1 (.idiv) := ⟨by decide +kernel, rfl⟩
theorem iX5_odds_176 : Ins mX5_odds 176 177 1 (.i2l) := ⟨by decide +kernel, rfl⟩
theorem iX5_odds_177 : Ins mX5_odds 177 178 1 (.lmul) := ⟨by decide +kernel, rfl⟩
theorem iX5_odds_178 : Ins mX5_odds 178 180 2 (.lstore 10) := ⟨by decide +kernel, rfl⟩
theorem iX5_odds_180 : Ins mX5_odds 180 183 3 (.iinc 12 1) := ⟨by decide +kernel, rfl⟩
theorem iX5_odds_183 : InB mX5_odds 183 186 153 .goto := ⟨by decide +kernel, rfl⟩
theorem iX5_odds_186 : Ins mX5_odds 186 188 2 (.lload 10) := ⟨by decide +kernel, rfl⟩
theorem iX5_odds_188 : Ins mX5_odds 188 189 1 (.lreturn) := ⟨by decide +kernel, rfl⟩
theorem iX5_seed_0 : Ins mX5_seed 0 1 1 (.aload_n 0) := ⟨by decide +kernel, rfl⟩
theorem iX5_seed_1 : Ins mX5_seed 1 2 1 (.iconst 2) := ⟨by decide +kernel, rfl⟩
theorem iX5_seed_2 : Ins mX5_seed 2 3 1 (.iload_n 1) := ⟨by decide +kernel, rfl⟩
theorem iX5_seed_3 : Ins mX5_seed 3 6 3 (.invokevirtual 81) := ⟨by decide +kernel, rfl⟩
theorem iX5_seed_6 : Ins mX5_seed 6 7 1 (.ireturn) := ⟨by decide +kernel, rfl⟩
theorem iX5_feed_0 : Ins mX5_feed 0 1 1 (.iload_n 2) := ⟨by decide +kernel, rfl⟩
theorem iX5_feed_1 : Ins mX5_feed 1 2 1 (.iconst 1) := ⟨by decide +kernel, rfl⟩
theorem iX5_feed_2 : Ins mX5_feed 2 3 1 (.iconst 4) := ⟨by decide +kernel, rfl⟩
theorem iX5_feed_3 : Ins mX5_feed 3 6 3 (.invokestatic 70) := ⟨by decide +kernel, rfl⟩
theorem iX5_feed_6 : InB mX5_feed 6 9 16 (.ifCond .ne) := ⟨by decide +kernel, rfl⟩
theorem iX5_feed_9 : Ins mX5_feed 9 10 1 (.aload_n 0) := ⟨by decide +kernel, rfl⟩
theorem iX5_feed_10 : Ins mX5_feed 10 12 2 (.ldc 60) := ⟨by decide +kernel, rfl⟩
theorem iX5_feed_12 : Ins mX5_feed 12 15 3 (.invokevirtual 66) := ⟨by decide +kernel, rfl⟩
theorem iX5_feed_15 : Ins mX5_feed 15 16 1 (.ireturn) := ⟨by decide +kernel, rfl⟩
theorem iX5_feed_16 : Ins mX5_feed 16 17 1 (.aload_n 0) := ⟨by decide +kernel, rfl⟩
theorem iX5_feed_17 : Ins mX5_feed 17 20 3 (.getfield 247) := ⟨by decide +kernel, rfl⟩
theorem iX5_feed_20 : Ins mX5_feed 20 21 1 (.iload_n 2) := ⟨by decide +kernel, rfl⟩
theorem iX5_feed_21 : Ins mX5_feed 21 22 1 (.iadd) := ⟨by decide +kernel, rfl⟩
theorem iX5_feed_22 : Ins mX5_feed 22 24 2 (.bipush 120) := ⟨by decide +kernel, rfl⟩
theorem iX5_feed_24 : InB mX5_feed 24 27 34 (.if_icmp .le) := ⟨by decide +kernel, rfl⟩
theorem iX5_feed_27 : Ins mX5_feed 27 28 1 (.aload_n 0) := ⟨by decide +kernel, rfl⟩
theorem iX5_feed_28 : Ins mX5_feed 28 30 2 (.ldc 97) := ⟨by decide +kernel, rfl⟩
theorem iX5_feed_30 : Ins mX5_feed 30 33 3 (.invokevirtual 66) := ⟨by decide +kernel, rfl⟩
theorem iX5_feed_33 : Ins mX5_feed 33 34 1 (.ireturn) := ⟨by decide +kernel, rfl⟩
theorem iX5_feed_34 : Ins mX5_feed 34 35 1 (.iload_n 2) := ⟨by decide +kernel, rfl⟩
theorem iX5_feed_35 : Ins mX5_feed 35 36 1 (.iconst 1) := ⟨by decide +kernel, rfl⟩
theorem iX5_feed_36 : Ins mX5_feed 36 37 1 (.isub) := ⟨by decide +kernel, rfl⟩
theorem iX5_feed_37 : Ins mX5_feed 37 38 1 (.istore_n 3) := ⟨by decide +kernel, rfl⟩
theorem iX5_feed_38 : Ins mX5_feed 38 39 1 (.iload_n 3) := ⟨by decide +kernel, rfl⟩
theorem iX5_feed_39 : InB mX5_feed 39 42 77 (.ifCond .lt) := ⟨by decide +kernel, rfl⟩
theorem iX5_feed_42 : Ins mX5_feed 42 43 1 (.aload_n 0) := ⟨by decide +kernel, rfl⟩
theorem iX5_feed_43 : Ins mX5_feed 43 46 3 (.getfield 22) := ⟨by decide +kernel, rfl⟩
theorem iX5_feed_46 : Ins mX5_feed 46 47 1 (.aload_n 0) := ⟨by decide +kernel, rfl⟩
theorem iX5_feed_47 : Ins mX5_feed 47 50 3 (.getfield 247) := ⟨by decide +kernel, rfl⟩
theorem iX5_feed_50 : Ins mX5_feed 50 51 1 (.iload_n 1) := ⟨by decide +kernel, rfl⟩
theorem iX5_feed_51 : Ins mX5_feed 51 53 2 (.bipush 8) := ⟨by decide +kernel, rfl⟩
theorem iX5_feed_53 : Ins mX5_feed 53 54 1 (.iload_n 3) := ⟨by decide +kernel, rfl⟩
theorem iX5_feed_54 : Ins mX5_feed 54 55 1 (.imul) := ⟨by decide +kernel, rfl⟩
theorem iX5_feed_55 : Ins mX5_feed 55 56 1 (.ishr) := ⟨by decide +kernel, rfl⟩
theorem iX5_feed_56 : Ins mX5_feed 56 59 3 (.sipush 255) := ⟨by decide +kernel, rfl⟩
theorem iX5_feed_59 : Ins mX5_feed 59 60 1 (.iand) := ⟨by decide +kernel, rfl⟩
theorem iX5_feed_60 : Ins mX5_feed 60 61 1 (.iastore) := ⟨by decide +kernel, rfl⟩
theorem iX5_feed_61 : Ins mX5_feed 61 62 1 (.aload_n 0) := ⟨by decide +kernel, rfl⟩
theorem iX5_feed_62 : Ins mX5_feed 62 63 1 (.dup) := ⟨by decide +kernel, rfl⟩
theorem iX5_feed_63 : Ins mX5_feed 63 66 3 (.getfield 247) := ⟨by decide +kernel, rfl⟩
theorem iX5_feed_66 : Ins mX5_feed 66 67 1 (.iconst 1) := ⟨by decide +kernel, rfl⟩
theorem iX5_feed_67 : Ins mX5_feed 67 68 1 (.iadd) := ⟨by decide +kernel, rfl⟩
theorem iX5_feed_68 : Ins mX5_feed 68 71 3 (.putfield 247) := ⟨by decide +kernel, rfl⟩
theorem iX5_feed_71 : Ins mX5_feed 71 74 3 (.iinc 3 (-1)) := ⟨by decide +kernel, rfl⟩
theorem iX5_feed_74 : InB mX5_feed 74 77 38 .goto := ⟨by decide +kernel, rfl⟩
theorem iX5_feed_77 : Ins mX5_feed 77 78 1 (.aload_n 0) := ⟨by decide +kernel, rfl⟩
theorem iX5_feed_78 : Ins mX5_feed 78 81 3 (.getfield 247) := ⟨by decide +kernel, rfl⟩
theorem iX5_feed_81 : Ins mX5_feed 81 82 1 (.ireturn) := ⟨by decide +kernel, rfl⟩
theorem iX5_wipe_0 : Ins mX5_wipe 0 1 1 (.aload_n 0) := ⟨by decide +kernel, rfl⟩
theorem iX5_wipe_1 : Ins mX5_wipe 1 4 3 (.getfield 247) := ⟨by decide +kernel, rfl⟩
theorem iX5_wipe_4 : Ins mX5_wipe 4 5 1 (.istore_n 1) := ⟨by decide +kernel, rfl⟩
theorem iX5_wipe_5 : Ins mX5_wipe 5 6 1 (.aload_n 0) := ⟨by decide +kernel, rfl⟩
theorem iX5_wipe_6 : Ins mX5_wipe 6 7 1 (.iconst 0) := ⟨by decide +kernel, rfl⟩
theorem iX5_wipe_7 : Ins mX5_wipe 7 10 3 (.putfield 247) := ⟨by decide +kernel, rfl⟩
theorem iX5_wipe_10 : Ins mX5_wipe 10 11 1 (.iload_n 1) := ⟨by decide +kernel, rfl⟩
theorem iX5_wipe_11 : Ins mX5_wipe 11 12 1 (.ireturn) := ⟨by decide +kernel, rfl⟩
theorem iX5_byteAt_0 : Ins mX5_byteAt 0 1 1 (.iload_n 1) := ⟨by decide +kernel, rfl⟩
theorem iX5_byteAt_1 : Ins mX5_byteAt 1 2 1 (.aload_n 0) := ⟨by decide +kernel, rfl⟩
theorem iX5_byteAt_2 : Ins mX5_byteAt 2 5 3 (.getfield 247) := ⟨by decide +kernel, rfl⟩
theorem iX5_byteAt_5 : InB mX5_byteAt 5 8 17 (.if_icmp .ge) := ⟨by decide +kernel, rfl⟩
theorem iX5_byteAt_8 : Ins mX5_byteAt 8 9 1 (.aload_n 0) := ⟨by decide +kernel, rfl⟩
theorem iX5_byteAt_9 : Ins mX5_byteAt 9 12 3 (.getfield 22) := ⟨by decide +kernel, rfl⟩
theorem iX5_byteAt_12 : Ins mX5_byteAt 12 13 1 (.iload_n 1) := ⟨by decide +kernel, rfl⟩
theorem iX5_byteAt_13 : Ins mX5_byteAt 13 14 1 (.iaload) := ⟨by decide +kernel, rfl⟩
theorem iX5_byteAt_14 : InB mX5_byteAt 14 17 18 .goto := ⟨by decide +kernel, rfl⟩
theorem iX5_byteAt_17 : Ins mX5_byteAt 17 18 1 (.iconst (-1)) := ⟨by decide +kernel, rfl⟩
theorem iX5_byteAt_18 : Ins mX5_byteAt 18 19 1 (.ireturn) := ⟨by decide +kernel, rfl⟩
theorem iX5_token_0 : Ins mX5_token 0 1 1 (.aload_n 0) := ⟨by decide +kernel, rfl⟩
theorem iX5_token_1 : Ins mX5_token 1 2 1 (.aload_n 0) := ⟨by decide +kernel, rfl⟩
theorem iX5_token_2 : Ins mX5_token 2 5 3 (.getfield 251) := ⟨by decide +kernel, rfl⟩
theorem iX5_token_5 : Ins mX5_token 5 8 3 (.putfield 254) := ⟨by decide +kernel, rfl⟩
theorem iX5_token_8 : Ins mX5_token 8 9 1 (.aload_n 0) := ⟨by decide +kernel, rfl⟩
theorem iX5_token_9 : Ins mX5_token 9 10 1 (.aload_n 0) := ⟨by decide +kernel, rfl⟩
theorem iX5_token_10 : Ins mX5_token 10 13 3 (.getfield 254) := ⟨by decide +kernel, rfl⟩
theorem iX5_token_13 : Ins mX5_token 13 16 3 (.invokevirtual 257) := ⟨by decide +kernel, rfl⟩
theorem iX5_token_16 : Ins mX5_token 16 18 2 (.bipush 32) := ⟨by decide +kernel, rfl⟩
theorem iX5_token_18 : InB mX5_token 18 21 34 (.if_icmp .ne) := ⟨by decide +kernel, rfl⟩
theorem iX5_token_21 : Ins mX5_token 21 22 1 (.aload_n 0) := ⟨by decide +kernel, rfl⟩
theorem iX5_token_22 : Ins mX5_token 22 23 1 (.dup) := ⟨by decide +kernel, rfl⟩
theorem iX5_token_23 : Ins mX5_token 23 26 3 (.getfield 254) := ⟨by decide +kernel, rfl⟩
theorem iX5_token_26 : Ins mX5_token 26 27 1 (.iconst 1) := ⟨by decide +kernel, rfl⟩
theorem iX5_token_27 : Ins mX5_token 27 28 1 (.iadd) := ⟨by decide +kernel, rfl⟩
theorem iX5_token_28 : Ins mX5_token 28 31 3 (.putfield 254) := ⟨by decide +kernel, rfl⟩
theorem iX5_token_31 : InB mX5_token 31 34 8 .goto := ⟨by decide +kernel, rfl⟩
theorem iX5_token_34 : Ins mX5_token 34 35 1 (.aload_n 0) := ⟨by decide +kernel, rfl⟩
theorem iX5_token_35 : Ins mX5_token 35 36 1 (.aload_n 0) := ⟨by decide +kernel, rfl⟩
theorem iX5_token_36 : Ins mX5_token 36 39 3 (.getfield 254) := ⟨by decide +kernel, rfl⟩
theorem iX5_token_39 : Ins mX5_token 39 42 3 (.invokevirtual 257) := ⟨by decide +kernel, rfl⟩
theorem iX5_token_42 : Ins mX5_token 42 43 1 (.istore_n 1) := ⟨by decide +kernel, rfl⟩
theorem iX5_token_43 : Ins mX5_token 43 44 1 (.aload_n 0) := ⟨by decide +kernel, rfl⟩
theorem iX5_token_44 : Ins mX5_token 44 45 1 (.aload_n 0) := ⟨by decide +kernel, rfl⟩
theorem iX5_token_45 : Ins mX5_token 45 48 3 (.getfield 254) := ⟨by decide +kernel, rfl⟩
theorem iX5_token_48 : Ins mX5_token 48 51 3 (.putfield 251) := ⟨by decide +kernel, rfl⟩
theorem iX5_token_51 : Ins mX5_token 51 52 1 (.aload_n 0) := ⟨by decide +kernel, rfl⟩
theorem iX5_token_52 : Ins mX5_token 52 53 1 (.iconst 0) := ⟨by decide +kernel, rfl⟩
theorem iX5_token_53 : Ins mX5_token 53 56 3 (.putfield 260) := ⟨by decide +kernel, rfl⟩
theorem iX5_token_56 : Ins mX5_token 56 57 1 (.iload_n 1) := ⟨by decide +kernel, rfl⟩
theorem iX5_token_57 : InB mX5_token 57 60 68 (.ifCond .ge) := ⟨by decide +kernel, rfl⟩
theorem iX5_token_60 : Ins mX5_token 60 61 1 (.aload_n 0) := ⟨by decide +kernel, rfl⟩
theorem iX5_token_61 : Ins mX5_token 61 62 1 (.iconst 0) := ⟨by decide +kernel, rfl⟩
theorem iX5_token_62 : Ins mX5_token 62 65 3 (.putfield 263) := ⟨by decide +kernel, rfl⟩
theorem iX5_token_65 : InB mX5_token 65 68 206 .goto := ⟨by decide +kernel, rfl⟩
theorem iX5_token_68 : Ins mX5_token 68 69 1 (.iload_n 1) := ⟨by decide +kernel, rfl⟩
theorem iX5_token_69 : Ins mX5_token 69 71 2 (.bipush 97) := ⟨by decide +kernel, rfl⟩
theorem iX5_token_71 : Ins mX5_token 71 73 2 (.bipush 122) := ⟨by decide +kernel, rfl⟩
theorem iX5_token_73 : Ins mX5_token 73 76 3 (.invokestatic 70) := ⟨by decide +kernel, rfl⟩
theorem iX5_token_76 : InB mX5_token 76 79 115 (.ifCond .eq) := ⟨by decide +kernel, rfl⟩
theorem iX5_token_79 : Ins mX5_token 79 80 1 (.aload_n 0) := ⟨by decide +kernel, rfl⟩
theorem iX5_token_80 : Ins mX5_token 80 81 1 (.iconst 1) := ⟨by decide +kernel, rfl⟩
theorem iX5_token_81 : Ins mX5_token 81 84 3 (.putfield 263) := ⟨by decide +kernel, rfl⟩
theorem iX5_token_84 : Ins mX5_token 84 85 1 (.aload_n 0) := ⟨by decide +kernel, rfl⟩
theorem iX5_token_85 : Ins mX5_token 85 86 1 (.aload_n 0) := ⟨by decide +kernel, rfl⟩
theorem iX5_token_86 : Ins mX5_token 86 89 3 (.getfield 251) := ⟨by decide +kernel, rfl⟩
theorem iX5_token_89 : Ins mX5_token 89 92 3 (.invokevirtual 257) := ⟨by decide +kernel, rfl⟩
theorem iX5_token_92 : Ins mX5_token 92 94 2 (.bipush 97) := ⟨by decide +kernel, rfl⟩
theorem iX5_token_94 : Ins mX5_token 94 96 2 (.bipush 122) := ⟨by decide +kernel, rfl⟩
theorem iX5_token_96 : Ins mX5_token 96 99 3 (.invokestatic 70) := ⟨by decide +kernel, rfl⟩
theorem iX5_token_99 : InB mX5_token 99 102 206 (.ifCond .eq) := ⟨by decide +kernel, rfl⟩
theorem iX5_token_102 : Ins mX5_token 102 103 1 (.aload_n 0) := ⟨by decide +kernel, rfl⟩
theorem iX5_token_103 : Ins mX5_token 103 104 1 (.dup) := ⟨by decide +kernel, rfl⟩
theorem iX5_token_104 : Ins mX5_token 104 107 3 (.getfield 251) := ⟨by decide +kernel, rfl⟩
theorem iX5_token_107 : Ins mX5_token 107 108 1 (.iconst 1) := ⟨by decide +kernel, rfl⟩
theorem iX5_token_108 : Ins mX5_token 108 109 1 (.iadd) := ⟨by decide +kernel, rfl⟩
theorem iX5_token_109 : Ins mX5_token 109 112 3 (.putfield 251) := ⟨by decide +kernel, rfl⟩
theorem iX5_token_112 : InB mX5_token 112 115 84 .goto := ⟨by decide +kernel, rfl⟩
theorem iX5_token_115 : Ins mX5_token 115 116 1 (.iload_n 1) := ⟨by decide +kernel, rfl⟩
theorem iX5_token_116 : Ins mX5_token 116 118 2 (.bipush 48) := ⟨by decide +kernel, rfl⟩
theorem iX5_token_118 : Ins mX5_token 118 120 2 (.bipush 57) := ⟨by decide +kernel, rfl⟩
theorem iX5_token_120 : Ins mX5_token 120 123 3 (.invokestatic 70) := ⟨by decide +kernel, rfl⟩
theorem iX5_token_123 : InB mX5_token 123 126 191 (.ifCond .eq) := ⟨by decide +kernel, rfl⟩
theorem iX5_token_126 : Ins mX5_token 126 127 1 (.aload_n 0) := ⟨by decide +kernel, rfl⟩
theorem iX5_token_127 : Ins mX5_token 127 128 1 (.iconst 2) := ⟨by decide +kernel, rfl⟩
theorem iX5_token_128 : Ins mX5_token 128 131 3 (.putfield 263) := ⟨by decide +kernel, rfl⟩
theorem iX5_token_131 : Ins mX5_token 131 132 1 (.aload_n 0) := ⟨by decide +kernel, rfl⟩
theorem iX5_token_132 : Ins mX5_token 132 133 1 (.aload_n 0) := ⟨by decide +kernel, rfl⟩
theorem iX5_token_133 : Ins mX5_token 133 136 3 (.getfield 251) := ⟨by decide +kernel, rfl⟩
theorem iX5_token_136 : Ins mX5_token 136 139 3 (.invokevirtual 257) := ⟨by decide +kernel, rfl⟩
theorem iX5_token_139 : Ins mX5_token 139 141 2 (.bipush 48) := ⟨by decide +kernel, rfl⟩
theorem iX5_token_141 : Ins mX5_token 141 143 2 (.bipush 57) := ⟨by decide +kernel, rfl⟩
theorem iX5_token_143 : Ins mX5_token 143 146 3 (.invokestatic 70) := ⟨by decide +kernel, rfl⟩
theorem iX5_token_146 : InB mX5_token 146 149 206 (.ifCond .eq) := ⟨by decide +kernel, rfl⟩
theorem iX5_token_149 : Ins mX5_token 149 150 1 (.aload_n 0) := ⟨by decide +kernel, rfl⟩
theorem iX5_token_150 : Ins mX5_token 150 153 3 (.sipush 10000) := ⟨by decide +kernel, rfl⟩
theorem iX5_token_153 : Ins mX5_token 153 155 2 (.bipush 10) := ⟨by decide +kernel, rfl⟩
theorem iX5_token_155 : Ins mX5_token 155 156 1 (.aload_n 0) := ⟨by decide +kernel, rfl⟩
theorem iX5_token_156 : Ins mX5_token 156 159 3 (.getfield 260) := ⟨by decide +kernel, rfl⟩
theorem iX5_token_159 : Ins mX5_token 159 160 1 (.imul) := ⟨by decide +kernel, rfl⟩
theorem iX5_token_160 : Ins mX5_token 160 161 1 (.aload_n 0) := ⟨by decide +kernel, rfl⟩
theorem iX5_token_161 : Ins mX5_token 161 162 1 (.aload_n 0) := ⟨by decide +kernel, rfl⟩
theorem iX5_token_162 : Ins mX5_token 162 165 3 (.getfield 251) := ⟨by decide +kernel, rfl⟩
theorem iX5_token_165 : Ins mX5_token 165 168 3 (.invokevirtual 257) := ⟨by decide +kernel, rfl⟩
theorem iX5_token_168 : Ins mX5_token 168 169 1 (.iadd) := ⟨by decide +kernel, rfl⟩
theorem iX5_token_169 : Ins mX5_token 169 171 2 (.bipush 48) := ⟨by decide +kernel, rfl⟩
theorem iX5_token_171 : Ins mX5_token 171 172 1 (.isub) := ⟨by decide +kernel, rfl⟩
theorem iX5_token_172 : Ins mX5_token 172 175 3 (.invokestatic 153) := ⟨by decide +kernel, rfl⟩
theorem iX5_token_175 : Ins mX5_token 175 178 3 (.putfield 260) := ⟨by decide +kernel, rfl⟩
theorem iX5_token_178 : Ins mX5_token 178 179 1 (.aload_n 0) := ⟨by decide +kernel, rfl⟩
theorem iX5_token_179 : Ins mX5_token 179 180 1 (.dup) := ⟨by decide +kernel, rfl⟩
theorem iX5_token_180 : Ins mX5_token 180 183 3 (.getfield 251) := ⟨by decide +kernel, rfl⟩
theorem iX5_token_183 : Ins mX5_token 183 184 1 (.iconst 1) := ⟨by decide +kernel, rfl⟩
theorem iX5_token_184 : Ins mX5_token 184 185 1 (.iadd) := ⟨by decide +kernel, rfl⟩
theorem iX5_token_185 : Ins mX5_token 185 188 3 (.putfield 251) := ⟨by decide +kernel, rfl⟩
theorem iX5_token_188 : InB mX5_token 188 191 131 .goto := ⟨by decide +kernel, rfl⟩
theorem iX5_token_191 : Ins mX5_token 191 192 1 (.aload_n 0) := ⟨by decide +kernel, rfl⟩
theorem iX5_token_192 : Ins mX5_token 192 193 1 (.iconst 3) := ⟨by decide +kernel, rfl⟩
theorem iX5_token_193 : Ins mX5_token 193 196 3 (.putfield 263) := ⟨by decide +kernel, rfl⟩
theorem iX5_token_196 : Ins mX5_token 196 197 1 (.aload_n 0) := ⟨by decide +kernel, rfl⟩
theorem iX5_token_197 : Ins mX5_token 197 198 1 (.dup) := ⟨by decide +kernel, rfl⟩
theorem iX5_token_198 : Ins mX5_token 198 201 3 (.getfield 251) := ⟨by decide +kernel, rfl⟩
theorem iX5_token_201 : Ins mX5_token 201 202 1 (.iconst 1) := ⟨by decide +kernel, rfl⟩
theorem iX5_token_202 : Ins mX5_token 202 203 1 (.iadd) := ⟨by decide +kernel, rfl⟩
theorem iX5_token_203 : Ins mX5_token 203 206 3 (.putfield 251) := ⟨by decide +kernel, rfl⟩
theorem iX5_token_206 : Ins mX5_token 206 207 1 (.return_) := ⟨by decide +kernel, rfl⟩
theorem iX5_isWord_0 : Ins mX5_isWord 0 1 1 (.aload_n 0) := ⟨by decide +kernel, rfl⟩
theorem iX5_isWord_1 : Ins mX5_isWord 1 4 3 (.getfield 263) := ⟨by decide +kernel, rfl⟩
theorem iX5_isWord_4 : Ins mX5_isWord 4 5 1 (.iconst 1) := ⟨by decide +kernel, rfl⟩
theorem iX5_isWord_5 : InB mX5_isWord 5 8 28 (.if_icmp .ne) := ⟨by decide +kernel, rfl⟩
theorem iX5_isWord_8 : Ins mX5_isWord 8 9 1 (.aload_n 0) := ⟨by decide +kernel, rfl⟩
theorem iX5_isWord_9 : Ins mX5_isWord 9 12 3 (.getfield 251) := ⟨by decide +kernel, rfl⟩
theorem iX5_isWord_12 : Ins mX5_isWord 12 13 1 (.aload_n 0) := ⟨by decide +kernel, rfl⟩
theorem iX5_isWord_13 : Ins mX5_isWord 13 16 3 (.getfield 254) := ⟨by decide +kernel, rfl⟩
theorem iX5_isWord_16 : Ins mX5_isWord 16 17 1 (.isub) := ⟨by decide +kernel, rfl⟩
theorem iX5_isWord_17 : Ins mX5_isWord 17 18 1 (.aload_n 1) := ⟨by decide +kernel, rfl⟩
theorem iX5_isWord_18 : Ins mX5_isWord 18 21 3 (.invokevirtual 266) := ⟨by decide +kernel, rfl⟩
theorem iX5_isWord_21 : InB mX5_isWord 21 24 28 (.if_icmp .ne) := ⟨by decide +kernel, rfl⟩
theorem iX5_isWord_24 : Ins mX5_isWord 24 25 1 (.iconst 1) := ⟨by decide +kernel, rfl⟩
theorem iX5_isWord_25 : InB mX5_isWord 25 28 29 .goto := ⟨by decide +kernel, rfl⟩
theorem iX5_isWord_28 : Ins mX5_isWord 28 29 1 (.iconst 0) := ⟨by decide +kernel, rfl⟩
theorem iX5_isWord_29 : Ins mX5_isWord 29 30 1 (.istore_n 2) := ⟨by decide +kernel, rfl⟩
theorem iX5_isWord_30 : Ins mX5_isWord 30 31 1 (.iconst 0) := ⟨by decide +kernel, rfl⟩
theorem iX5_isWord_31 : Ins mX5_isWord 31 32 1 (.istore_n 3) := ⟨by decide +kernel, rfl⟩
theorem iX5_isWord_32 : Ins mX5_isWord 32 33 1 (.iload_n 3) := ⟨by decide +kernel, rfl⟩
theorem iX5_isWord_33 : Ins mX5_isWord 33 34 1 (.aload_n 1) := ⟨by decide +kernel, rfl⟩
theorem iX5_isWord_34 : Ins mX5_isWord 34 37 3 (.invokevirtual 266) := ⟨by decide +kernel, rfl⟩
theorem iX5_isWord_37 : InB mX5_isWord 37 40 75 (.if_icmp .ge) := ⟨by decide +kernel, rfl⟩
theorem iX5_isWord_40 : Ins mX5_isWord 40 41 1 (.iload_n 2) := ⟨by decide +kernel, rfl⟩
theorem iX5_isWord_41 : InB mX5_isWord 41 44 75 (.ifCond .eq) := ⟨by decide +kernel, rfl⟩
theorem iX5_isWord_44 : Ins mX5_isWord 44 45 1 (.aload_n 0) := ⟨by decide +kernel, rfl⟩
theorem iX5_isWord_45 : Ins mX5_isWord 45 48 3 (.getfield 22) := ⟨by decide +kernel, rfl⟩
theorem iX5_isWord_48 : Ins mX5_isWord 48 49 1 (.aload_n 0) := ⟨by decide +kernel, rfl⟩
theorem iX5_isWord_49 : Ins mX5_isWord 49 52 3 (.getfield 254) := ⟨by decide +kernel, rfl⟩
theorem iX5_isWord_52 : Ins mX5_isWord 52 53 1 (.iload_n 3) := ⟨by decide +kernel, rfl⟩
theorem iX5_isWord_53 : Ins mX5_isWord 53 54 1 (.iadd) := ⟨by decide +kernel, rfl⟩
theorem iX5_isWord_54 : Ins mX5_isWord 54 55 1 (.iaload) := ⟨by decide +kernel, rfl⟩
theorem iX5_isWord_55 : Ins mX5_isWord 55 56 1 (.aload_n 1) := ⟨by decide +kernel, rfl⟩
theorem iX5_isWord_56 : Ins mX5_isWord 56 57 1 (.iload_n 3) := ⟨by decide +kernel, rfl⟩
theorem iX5_isWord_57 : Ins mX5_isWord 57 60 3 (.invokevirtual 269) := ⟨by decide +kernel, rfl⟩
theorem iX5_isWord_60 : InB mX5_isWord 60 63 67 (.if_icmp .ne) := ⟨by decide +kernel, rfl⟩
theorem iX5_isWord_63 : Ins mX5_isWord 63 64 1 (.iconst 1) := ⟨by decide +kernel, rfl⟩
theorem iX5_isWord_64 : InB mX5_isWord 64 67 68 .goto := ⟨by decide +kernel, rfl⟩
theorem iX5_isWord_67 : Ins mX5_isWord 67 68 1 (.iconst 0) := ⟨by decide +kernel, rfl⟩
theorem iX5_isWord_68 : Ins mX5_isWord 68 69 1 (.istore_n 2) := ⟨by decide +kernel, rfl⟩
theorem iX5_isWord_69 : Ins mX5_isWord 69 72 3 (.iinc 3 1) := ⟨by decide +kernel, rfl⟩
theorem iX5_isWord_72 : InB mX5_isWord 72 75 32 .goto := ⟨by decide +kernel, rfl⟩
theorem iX5_isWord_75 : Ins mX5_isWord 75 76 1 (.iload_n 2) := ⟨by decide +kernel, rfl⟩
theorem iX5_isWord_76 : Ins mX5_isWord 76 77 1 (.ireturn) := ⟨by decide +kernel, rfl⟩
theorem iX5_must_0 : Ins mX5_must 0 1 1 (.aload_n 0) := ⟨by decide +kernel, rfl⟩
theorem iX5_must_1 : Ins mX5_must 1 2 1 (.aload_n 0) := ⟨by decide +kernel, rfl⟩
theorem iX5_must_2 : Ins mX5_must 2 5 3 (.getfield 273) := ⟨by decide +kernel, rfl⟩
theorem iX5_must_5 : InB mX5_must 5 8 12 (.ifCond .ne) := ⟨by decide +kernel, rfl⟩
theorem iX5_must_8 : Ins mX5_must 8 9 1 (.iload_n 1) := ⟨by decide +kernel, rfl⟩
theorem iX5_must_9 : InB mX5_must 9 12 16 (.ifCond .ne) := ⟨by decide +kernel, rfl⟩
theorem iX5_must_12 : Ins mX5_must 12 13 1 (.iconst 1) := ⟨by decide +kernel, rfl⟩
theorem iX5_must_13 : InB mX5_must 13 16 17 .goto := ⟨by decide +kernel, rfl⟩
theorem iX5_must_16 : Ins mX5_must 16 17 1 (.iconst 0) := ⟨by decide +kernel, rfl⟩
theorem iX5_must_17 : Ins mX5_must 17 20 3 (.putfield 273) := ⟨by decide +kernel, rfl⟩
theorem iX5_must_20 : Ins mX5_must 20 21 1 (.aload_n 0) := ⟨by decide +kernel, rfl⟩
theorem iX5_must_21 : Ins mX5_must 21 24 3 (.getfield 273) := ⟨by decide +kernel, rfl⟩
theorem iX5_must_24 : InB mX5_must 24 27 31 (.ifCond .ne) := ⟨by decide +kernel, rfl⟩
theorem iX5_must_27 : Ins mX5_must 27 28 1 (.aload_n 0) := ⟨by decide +kernel, rfl⟩
theorem iX5_must_28 : Ins mX5_must 28 31 3 (.invokevirtual 277) := ⟨by decide +kernel, rfl⟩
theorem iX5_must_31 : Ins mX5_must 31 32 1 (.return_) := ⟨by decide +kernel, rfl⟩
theorem iX5_number_0 : Ins mX5_number 0 1 1 (.aload_n 0) := ⟨by decide +kernel, rfl⟩
theorem iX5_number_1 : Ins mX5_number 1 4 3 (.getfield 260) := ⟨by decide +kernel, rfl⟩
theorem iX5_number_4 : Ins mX5_number 4 5 1 (.istore_n 3) := ⟨by decide +kernel, rfl⟩
theorem iX5_number_5 : Ins mX5_number 5 6 1 (.aload_n 0) := ⟨by decide +kernel, rfl⟩
theorem iX5_number_6 : Ins mX5_number 6 7 1 (.aload_n 0) := ⟨by decide +kernel, rfl⟩
theorem iX5_number_7 : Ins mX5_number 7 10 3 (.getfield 263) := ⟨by decide +kernel, rfl⟩
theorem iX5_number_10 : Ins mX5_number 10 11 1 (.iconst 2) := ⟨by decide +kernel, rfl⟩
theorem iX5_number_11 : InB mX5_number 11 14 27 (.if_icmp .ne) := ⟨by decide +kernel, rfl⟩
theorem iX5_number_14 : Ins mX5_number 14 15 1 (.iload_n 3) := ⟨by decide +kernel, rfl⟩
theorem iX5_number_15 : Ins mX5_number 15 16 1 (.iload_n 1) := ⟨by decide +kernel, rfl⟩
theorem iX5_number_16 : Ins mX5_number 16 17 1 (.iload_n 2) := ⟨by decide +kernel, rfl⟩
theorem iX5_number_17 : Ins mX5_number 17 20 3 (.invokestatic 70) := ⟨by decide +kernel, rfl⟩
theorem iX5_number_20 : InB mX5_number 20 23 27 (.ifCond .eq) := ⟨by decide +kernel, rfl⟩
theorem iX5_number_23 : Ins mX5_number 23 24 1 (.iconst 1) := ⟨by decide +kernel, rfl⟩
theorem iX5_number_24 : InB mX5_number 24 27 28 .goto := ⟨by decide +kernel, rfl⟩
theorem iX5_number_27 : Ins mX5_number 27 28 1 (.iconst 0) := ⟨by decide +kernel, rfl⟩
theorem iX5_number_28 : Ins mX5_number 28 31 3 (.invokevirtual 280) := ⟨by decide +kernel, rfl⟩
theorem iX5_number_31 : Ins mX5_number 31 32 1 (.iload_n 3) := ⟨by decide +kernel, rfl⟩
theorem iX5_number_32 : Ins mX5_number 32 33 1 (.ireturn) := ⟨by decide +kernel, rfl⟩
theorem iX5_addItem_0 : Ins mX5_addItem 0 1 1 (.iconst 4) := ⟨by decide +kernel, rfl⟩
theorem iX5_addItem_1 : Ins mX5_addItem 1 2 1 (.aload_n 0) := ⟨by decide +kernel, rfl⟩
theorem iX5_addItem_2 : Ins mX5_addItem 2 5 3 (.getfield 284) := ⟨by decide +kernel, rfl⟩
theorem iX5_addItem_5 : Ins mX5_addItem 5 6 1 (.imul) := ⟨by decide +kernel, rfl⟩
theorem iX5_addItem_6 : Ins mX5_addItem 6 8 2 (.istore 5) := ⟨by decide +kernel, rfl⟩
theorem iX5_addItem_8 : Ins mX5_addItem 8 9 1 (.aload_n 0) := ⟨by decide +kernel, rfl⟩
theorem iX5_addItem_9 : Ins mX5_addItem 9 12 3 (.getfield 45) := ⟨by decide +kernel, rfl⟩
theorem iX5_addItem_12 : Ins mX5_addItem 12 14 2 (.iload 5) := ⟨by decide +kernel, rfl⟩
theorem iX5_addItem_14 : Ins mX5_addItem 14 15 1 (.iload_n 1) := ⟨by decide +kernel, rfl⟩
theorem iX5_addItem_15 : Ins mX5_addItem 15 16 1 (.iastore) := ⟨by decide +kernel, rfl⟩
theorem iX5_addItem_16 : Ins mX5_addItem 16 17 1 (.aload_n 0) := ⟨by decide +kernel, rfl⟩
theorem iX5_addItem_17 : Ins mX5_addItem 17 20 3 (.getfield 45) := ⟨by decide +kernel, rfl⟩
theorem iX5_addItem_20 : Ins mX5_addItem 20 22 2 (.iload 5) := ⟨by decide +kernel, rfl⟩
theorem iX5_addItem_22 : Ins mX5_addItem 22 23 1 (.iconst 1) := ⟨by decide +kernel, rfl⟩
theorem iX5_addItem_23 : Ins mX5_addItem 23 24 1 (.iadd) := ⟨by decide +kernel, rfl⟩
theorem iX5_addItem_24 : Ins mX5_addItem 24 25 1 (.iload_n 2) := ⟨by decide +kernel, rfl⟩
theorem iX5_addItem_25 : Ins mX5_addItem 25 26 1 (.iastore) := ⟨by decide +kernel, rfl⟩
theorem iX5_addItem_26 : Ins mX5_addItem 26 27 1 (.aload_n 0) := ⟨by decide +kernel, rfl⟩
theorem iX5_addItem_27 : Ins mX5_addItem 27 30 3 (.getfield 45) := ⟨by decide +kernel, rfl⟩
theorem iX5_addItem_30 : Ins mX5_addItem 30 32 2 (.iload 5) := ⟨by decide +kernel, rfl⟩
theorem iX5_addItem_32 : Ins mX5_addItem 32 33 1 (.iconst 2) := ⟨by decide +kernel, rfl⟩
theorem iX5_addItem_33 : Ins mX5_addItem 33 34 1 (.iadd) := ⟨by decide +kernel, rfl⟩
theorem iX5_addItem_34 : Ins mX5_addItem 34 35 1 (.iload_n 3) := ⟨by decide +kernel, rfl⟩
theorem iX5_addItem_35 : Ins mX5_addItem 35 36 1 (.iastore) := ⟨by decide +kernel, rfl⟩
theorem iX5_addItem_36 : Ins mX5_addItem 36 37 1 (.aload_n 0) := ⟨by decide +kernel, rfl⟩
theorem iX5_addItem_37 : Ins mX5_addItem 37 40 3 (.getfield 45) := ⟨by decide +kernel, rfl⟩
theorem iX5_addItem_40 : Ins mX5_addItem 40 42 2 (.iload 5) := ⟨by decide +kernel, rfl⟩
theorem iX5_addItem_42 : Ins mX5_addItem 42 43 1 (.iconst 3) := ⟨by decide +kernel, rfl⟩
theorem iX5_addItem_43 : Ins mX5_addItem 43 44 1 (.iadd) := ⟨by decide +kernel, rfl⟩
theorem iX5_addItem_44 : Ins mX5_addItem 44 46 2 (.iload 4) := ⟨by decide +kernel, rfl⟩
theorem iX5_addItem_46 : Ins mX5_addItem 46 47 1 (.iastore) := ⟨by decide +kernel, rfl⟩
theorem iX5_addItem_47 : Ins mX5_addItem 47 48 1 (.aload_n 0) := ⟨by decide +kernel, rfl⟩
theorem iX5_addItem_48 : Ins mX5_addItem 48 49 1 (.dup) := ⟨by decide +kernel, rfl⟩
theorem iX5_addItem_49 : Ins mX5_addItem 49 52 3 (.getfield 284) := ⟨by decide +kernel, rfl⟩
theorem iX5_addItem_52 : Ins mX5_addItem 52 53 1 (.iconst 1) := ⟨by decide +kernel, rfl⟩
theorem iX5_addItem_53 : Ins mX5_addItem 53 54 1 (.iadd) := ⟨by decide +kernel, rfl⟩
theorem iX5_addItem_54 : Ins mX5_addItem 54 57 3 (.putfield 284) := ⟨by decide +kernel, rfl⟩
theorem iX5_addItem_57 : Ins mX5_addItem 57 58 1 (.return_) := ⟨by decide +kernel, rfl⟩
theorem iX5_takesWord_0 : Ins mX5_takesWord 0 1 1 (.aload_n 0) := ⟨by decide +kernel, rfl⟩
theorem iX5_takesWord_1 : Ins mX5_takesWord 1 4 3 (.getfield 273) := ⟨by decide +kernel, rfl⟩
theorem iX5_takesWord_4 : InB mX5_takesWord 4 7 19 (.ifCond .ne) := ⟨by decide +kernel, rfl⟩
theorem iX5_takesWord_7 : Ins mX5_takesWord 7 8 1 (.aload_n 0) := ⟨by decide +kernel, rfl⟩
theorem iX5_takesWord_8 : Ins mX5_takesWord 8 9 1 (.aload_n 1) := ⟨by decide +kernel, rfl⟩
theorem iX5_takesWord_9 : Ins mX5_takesWord 9 12 3 (.invokevirtual 287) := ⟨by decide +kernel, rfl⟩
theorem iX5_takesWord_12 : InB mX5_takesWord 12 15 19 (.ifCond .eq) := ⟨by decide +kernel, rfl⟩
theorem iX5_takesWord_15 : Ins mX5_takesWord 15 16 1 (.iconst 1) := ⟨by decide +kernel, rfl⟩
theorem iX5_takesWord_16 : InB mX5_takesWord 16 19 20 .goto := ⟨by decide +kernel, rfl⟩
theorem iX5_takesWord_19 : Ins mX5_takesWord 19 20 1 (.iconst 0) := ⟨by decide +kernel, rfl⟩
theorem iX5_takesWord_20 : Ins mX5_takesWord 20 21 1 (.istore_n 2) := ⟨by decide +kernel, rfl⟩
theorem iX5_takesWord_21 : Ins mX5_takesWord 21 22 1 (.iload_n 2) := ⟨by decide +kernel, rfl⟩
theorem iX5_takesWord_22 : InB mX5_takesWord 22 25 30 (.ifCond .eq) := ⟨by decide +kernel, rfl⟩
theorem iX5_takesWord_25 : Ins mX5_takesWord 25 26 1 (.aload_n 0) := ⟨by decide +kernel, rfl⟩
theorem iX5_takesWord_26 : Ins mX5_takesWord 26 27 1 (.iconst 1) := ⟨by decide +kernel, rfl⟩
theorem iX5_takesWord_27 : Ins mX5_takesWord 27 30 3 (.invokevirtual 280) := ⟨by decide +kernel, rfl⟩
theorem iX5_takesWord_30 : Ins mX5_takesWord 30 31 1 (.iload_n 2) := ⟨by decide +kernel, rfl⟩
theorem iX5_takesWord_31 : Ins mX5_takesWord 31 32 1 (.ireturn) := ⟨by decide +kernel, rfl⟩
theorem iX5_readPerson_0 : Ins mX5_readPerson 0 1 1 (.aload_n 0) := ⟨by decide +kernel, rfl⟩
theorem iX5_readPerson_1 : Ins mX5_readPerson 1 2 1 (.aload_n 0) := ⟨by decide +kernel, rfl⟩
theorem iX5_readPerson_2 : Ins mX5_readPerson 2 5 3 (.getfield 291) := ⟨by decide +kernel, rfl⟩
theorem iX5_readPerson_5 : Ins mX5_readPerson 5 7 2 (.bipush 8) := ⟨by decide +kernel, rfl⟩
theorem iX5_readPerson_7 : InB mX5_readPerson 7 10 14 (.if_icmp .ge) := ⟨by decide +kernel, rfl⟩
theorem iX5_readPerson_10 : Ins mX5_readPerson 10 11 1 (.iconst 1) := ⟨by decide +kernel, rfl⟩
theorem iX5_readPerson_11 : InB mX5_readPerson 11 14 15 .goto := ⟨by decide +kernel, rfl⟩
theorem iX5_readPerson_14 : Ins mX5_readPerson 14 15 1 (.iconst 0) := ⟨by decide +kernel, rfl⟩
theorem iX5_readPerson_15 : Ins mX5_readPerson 15 18 3 (.invokevirtual 280) := ⟨by decide +kernel, rfl⟩
theorem iX5_readPerson_18 : Ins mX5_readPerson 18 19 1 (.aload_n 0) := ⟨by decide +kernel, rfl⟩
theorem iX5_readPerson_19 : Ins mX5_readPerson 19 22 3 (.ldc_w 294) := ⟨by decide +kernel, rfl⟩
theorem iX5_readPerson_22 : Ins mX5_readPerson 22 25 3 (.invokevirtual 296) := ⟨by decide +kernel, rfl⟩
theorem iX5_readPerson_25 : InB mX5_readPerson 25 28 38 (.ifCond .eq) := ⟨by decide +kernel, rfl⟩
theorem iX5_readPerson_28 : Ins mX5_readPerson 28 29 1 (.aload_n 0) := ⟨by decide +kernel, rfl⟩
theorem iX5_readPerson_29 : Ins mX5_readPerson 29 30 1 (.iconst 0) := ⟨by decide +kernel, rfl⟩
theorem iX5_readPerson_30 : Ins mX5_readPerson 30 32 2 (.bipush 9) := ⟨by decide +kernel, rfl⟩
theorem iX5_readPerson_32 : Ins mX5_readPerson 32 35 3 (.invokevirtual 299) := ⟨by decide +kernel, rfl⟩
theorem iX5_readPerson_35 : InB mX5_readPerson 35 38 39 .goto := ⟨by decide +kernel, rfl⟩
theorem iX5_readPerson_38 : Ins mX5_readPerson 38 39 1 (.iconst 5) := ⟨by decide +kernel, rfl⟩
theorem iX5_readPerson_39 : Ins mX5_readPerson 39 40 1 (.istore_n 2) := ⟨by decide +kernel, rfl⟩
theorem iX5_readPerson_40 : Ins mX5_readPerson 40 41 1 (.aload_n 0) := ⟨by decide +kernel, rfl⟩
theorem iX5_readPerson_41 : Ins mX5_readPerson 41 42 1 (.iload_n 1) := ⟨by decide +kernel, rfl⟩
theorem iX5_readPerson_42 : Ins mX5_readPerson 42 43 1 (.iload_n 2) := ⟨by decide +kernel, rfl⟩
theorem iX5_readPerson_43 : Ins mX5_readPerson 43 44 1 (.aload_n 0) := ⟨by decide +kernel, rfl⟩
theorem iX5_readPerson_44 : Ins mX5_readPerson 44 47 3 (.ldc_w 302) := ⟨by decide +kernel, rfl⟩
theorem iX5_readPerson_47 : Ins mX5_readPerson 47 50 3 (.invokevirtual 296) := ⟨by decide +kernel, rfl⟩
theorem iX5_readPerson_50 : InB mX5_readPerson 50 53 57 (.ifCond .eq) := ⟨by decide +kernel, rfl⟩
theorem iX5_readPerson_53 : Ins mX5_readPerson 53 54 1 (.iconst 1) := ⟨by decide +kernel, rfl⟩
theorem iX5_readPerson_54 : InB mX5_readPerson 54 57 58 .goto := ⟨by decide +kernel, rfl⟩
theorem iX5_readPerson_57 : Ins mX5_readPerson 57 58 1 (.iconst 0) := ⟨by decide +kernel, rfl⟩
theorem iX5_readPerson_58 : Ins mX5_readPerson 58 59 1 (.iconst 0) := ⟨by decide +kernel, rfl⟩
theorem iX5_readPerson_59 : Ins mX5_readPerson 59 62 3 (.invokevirtual 304) := ⟨by decide +kernel, rfl⟩
theorem iX5_readPerson_62 : Ins mX5_readPerson 62 63 1 (.aload_n 0) := ⟨by decide +kernel, rfl⟩
theorem iX5_readPerson_63 : Ins mX5_readPerson 63 64 1 (.dup) := ⟨by decide +kernel, rfl⟩
theorem iX5_readPerson_64 : Ins mX5_readPerson 64 67 3 (.getfield 291) := ⟨by decide +kernel, rfl⟩
theorem iX5_readPerson_67 : Ins mX5_readPerson 67 68 1 (.iconst 1) := ⟨by decide +kernel, rfl⟩
theorem iX5_readPerson_68 : Ins mX5_readPerson 68 69 1 (.iadd) := ⟨by decide +kernel, rfl⟩
theorem iX5_readPerson_69 : Ins mX5_readPerson 69 72 3 (.putfield 291) := ⟨by decide +kernel, rfl⟩
theorem iX5_readPerson_72 : Ins mX5_readPerson 72 73 1 (.return_) := ⟨by decide +kernel, rfl⟩
theorem iX5_readSaying_0 : Ins mX5_readSaying 0 1 1 (.aload_n 0) := ⟨by decide +kernel, rfl⟩
theorem iX5_readSaying_1 : Ins mX5_readSaying 1 2 1 (.aload_n 0) := ⟨by decide +kernel, rfl⟩
theorem iX5_readSaying_2 : Ins mX5_readSaying 2 5 3 (.getfield 308) := ⟨by decide +kernel, rfl⟩
theorem iX5_readSaying_5 : Ins mX5_readSaying 5 7 2 (.bipush 6) := ⟨by decide +kernel, rfl⟩
theorem iX5_readSaying_7 : InB mX5_readSaying 7 10 14 (.if_icmp .ge) := ⟨by decide +kernel, rfl⟩
theorem iX5_readSaying_10 : Ins mX5_readSaying 10 11 1 (.iconst 1) := ⟨by decide +kernel, rfl⟩
theorem iX5_readSaying_11 : InB mX5_readSaying 11 14 15 .goto := ⟨by decide +kernel, rfl⟩
theorem iX5_readSaying_14 : Ins mX5_readSaying 14 15 1 (.iconst 0) := ⟨by decide +kernel, rfl⟩
theorem iX5_readSaying_15 : Ins mX5_readSaying 15 18 3 (.invokevirtual 280) := ⟨by decide +kernel, rfl⟩
theorem iX5_readSaying_18 : Ins mX5_readSaying 18 19 1 (.aload_n 0) := ⟨by decide +kernel, rfl⟩
theorem iX5_readSaying_19 : Ins mX5_readSaying 19 20 1 (.iconst 0) := ⟨by decide +kernel, rfl⟩
theorem iX5_readSaying_20 : Ins mX5_readSaying 20 21 1 (.aload_n 0) := ⟨by decide +kernel, rfl⟩
theorem iX5_readSaying_21 : Ins mX5_readSaying 21 24 3 (.getfield 291) := ⟨by decide +kernel, rfl⟩
theorem iX5_readSaying_24 : Ins mX5_readSaying 24 25 1 (.iconst 1) := ⟨by decide +kernel, rfl⟩
theorem iX5_readSaying_25 : Ins mX5_readSaying 25 26 1 (.isub) := ⟨by decide +kernel, rfl⟩
theorem iX5_readSaying_26 : Ins mX5_readSaying 26 29 3 (.invokevirtual 299) := ⟨by decide +kernel, rfl⟩
theorem iX5_readSaying_29 : Ins mX5_readSaying 29 30 1 (.istore_n 1) := ⟨by decide +kernel, rfl⟩
theorem iX5_readSaying_30 : Ins mX5_readSaying 30 31 1 (.aload_n 0) := ⟨by decide +kernel, rfl⟩
theorem iX5_readSaying_31 : Ins mX5_readSaying 31 32 1 (.iconst 0) := ⟨by decide +kernel, rfl⟩
theorem iX5_readSaying_32 : Ins mX5_readSaying 32 34 2 (.bipush 7) := ⟨by decide +kernel, rfl⟩
theorem iX5_readSaying_34 : Ins mX5_readSaying 34 37 3 (.invokevirtual 299) := ⟨by decide +kernel, rfl⟩
theorem iX5_readSaying_37 : Ins mX5_readSaying 37 38 1 (.istore_n 2) := ⟨by decide +kernel, rfl⟩
theorem iX5_readSaying_38 : Ins mX5_readSaying 38 39 1 (.aload_n 0) := ⟨by decide +kernel, rfl⟩
theorem iX5_readSaying_39 : Ins mX5_readSaying 39 41 2 (.bipush 10) := ⟨by decide +kernel, rfl⟩
theorem iX5_readSaying_41 : Ins mX5_readSaying 41 42 1 (.iload_n 1) := ⟨by decide +kernel, rfl⟩
theorem iX5_readSaying_42 : Ins mX5_readSaying 42 43 1 (.iload_n 2) := ⟨by decide +kernel, rfl⟩
theorem iX5_readSaying_43 : Ins mX5_readSaying 43 44 1 (.aload_n 0) := ⟨by decide +kernel, rfl⟩
theorem iX5_readSaying_44 : Ins mX5_readSaying 44 45 1 (.iconst 0) := ⟨by decide +kernel, rfl⟩
theorem iX5_readSaying_45 : Ins mX5_readSaying 45 47 2 (.bipush 9) := ⟨by decide +kernel, rfl⟩
theorem iX5_readSaying_47 : Ins mX5_readSaying 47 50 3 (.invokevirtual 299) := ⟨by decide +kernel, rfl⟩
theorem iX5_readSaying_50 : Ins mX5_readSaying 50 53 3 (.invokevirtual 304) := ⟨by decide +kernel, rfl⟩
theorem iX5_readSaying_53 : Ins mX5_readSaying 53 54 1 (.aload_n 0) := ⟨by decide +kernel, rfl⟩
theorem iX5_readSaying_54 : Ins mX5_readSaying 54 55 1 (.dup) := ⟨by decide +kernel, rfl⟩
theorem iX5_readSaying_55 : Ins mX5_readSaying 55 58 3 (.getfield 308) := ⟨by decide +kernel, rfl⟩
theorem iX5_readSaying_58 : Ins mX5_readSaying 58 59 1 (.iconst 1) := ⟨by decide +kernel, rfl⟩
theorem iX5_readSaying_59 : Ins mX5_readSaying 59 60 1 (.iadd) := ⟨by decide +kernel, rfl⟩
theorem iX5_readSaying_60 : Ins mX5_readSaying 60 63 3 (.putfield 308) := ⟨by decide +kernel, rfl⟩
theorem iX5_readSaying_63 : Ins mX5_readSaying 63 64 1 (.return_) := ⟨by decide +kernel, rfl⟩
theorem iX5_readItem_0 : Ins mX5_readItem 0 1 1 (.iconst (-1)) := ⟨by decide +kernel, rfl⟩
theorem iX5_readItem_1 : Ins mX5_readItem 1 2 1 (.istore_n 1) := ⟨by decide +kernel, rfl⟩
theorem iX5_readItem_2 : Ins mX5_readItem 2 3 1 (.iconst 0) := ⟨by decide +kernel, rfl⟩
theorem iX5_readItem_3 : Ins mX5_readItem 3 4 1 (.istore_n 2) := ⟨by decide +kernel, rfl⟩
theorem iX5_readItem_4 : Ins mX5_readItem 4 5 1 (.iload_n 2) := ⟨by decide +kernel, rfl⟩
theorem iX5_readItem_5 : Ins mX5_readItem 5 6 1 (.aload_n 0) := ⟨by decide +kernel, rfl⟩
theorem iX5_readItem_6 : Ins mX5_readItem 6 9 3 (.getfield 41) := ⟨by decide +kernel, rfl⟩
theorem iX5_readItem_9 : Ins mX5_readItem 9 10 1 (.arraylength) := ⟨by decide +kernel, rfl⟩
theorem iX5_readItem_10 : InB mX5_readItem 10 13 38 (.if_icmp .ge) := ⟨by decide +kernel, rfl⟩
theorem iX5_readItem_13 : Ins mX5_readItem 13 14 1 (.aload_n 0) := ⟨by decide +kernel, rfl⟩
theorem iX5_readItem_14 : Ins mX5_readItem 14 15 1 (.aload_n 0) := ⟨by decide +kernel, rfl⟩
theorem iX5_readItem_15 : Ins mX5_readItem 15 18 3 (.getfield 41) := ⟨by decide +kernel, rfl⟩
theorem iX5_readItem_18 : Ins mX5_readItem 18 19 1 (.iload_n 2) := ⟨by decide +kernel, rfl⟩
theorem iX5_readItem_19 : Ins mX5_readItem 19 20 1 (.aaload) := ⟨by decide +kernel, rfl⟩
theorem iX5_readItem_20 : Ins mX5_readItem 20 23 3 (.invokevirtual 287) := ⟨by decide +kernel, rfl⟩
theorem iX5_readItem_23 : InB mX5_readItem 23 26 30 (.ifCond .eq) := ⟨by decide +kernel, rfl⟩
theorem iX5_readItem_26 : Ins mX5_readItem 26 27 1 (.iload_n 2) := ⟨by decide +kernel, rfl⟩
theorem iX5_readItem_27 : InB mX5_readItem 27 30 31 .goto := ⟨by decide +kernel, rfl⟩
theorem iX5_readItem_30 : Ins mX5_readItem 30 31 1 (.iload_n 1) := ⟨by decide +kernel, rfl⟩
theorem iX5_readItem_31 : Ins mX5_readItem 31 32 1 (.istore_n 1) := ⟨by decide +kernel, rfl⟩
theorem iX5_readItem_32 : Ins mX5_readItem 32 35 3 (.iinc 2 1) := ⟨by decide +kernel, rfl⟩
theorem iX5_readItem_35 : InB mX5_readItem 35 38 4 .goto := ⟨by decide +kernel, rfl⟩
theorem iX5_readItem_38 : Ins mX5_readItem 38 39 1 (.iload_n 1) := ⟨by decide +kernel, rfl⟩
theorem iX5_readItem_39 : InB mX5_readItem 39 42 50 (.ifCond .lt) := ⟨by decide +kernel, rfl⟩
theorem iX5_readItem_42 : Ins mX5_readItem 42 43 1 (.aload_n 0) := ⟨by decide +kernel, rfl⟩
theorem iX5_readItem_43 : Ins mX5_readItem 43 44 1 (.iload_n 1) := ⟨by decide +kernel, rfl⟩
theorem iX5_readItem_44 : Ins mX5_readItem 44 47 3 (.invokevirtual 311) := ⟨by decide +kernel, rfl⟩
theorem iX5_readItem_47 : InB mX5_readItem 47 50 115 .goto := ⟨by decide +kernel, rfl⟩
theorem iX5_readItem_50 : Ins mX5_readItem 50 51 1 (.aload_n 0) := ⟨by decide +kernel, rfl⟩
theorem iX5_readItem_51 : Ins mX5_readItem 51 54 3 (.ldc_w 314) := ⟨by decide +kernel, rfl⟩
theorem iX5_readItem_54 : Ins mX5_readItem 54 57 3 (.invokevirtual 287) := ⟨by decide +kernel, rfl⟩
theorem iX5_readItem_57 : InB mX5_readItem 57 60 67 (.ifCond .eq) := ⟨by decide +kernel, rfl⟩
theorem iX5_readItem_60 : Ins mX5_readItem 60 61 1 (.aload_n 0) := ⟨by decide +kernel, rfl⟩
theorem iX5_readItem_61 : Ins mX5_readItem 61 64 3 (.invokevirtual 316) := ⟨by decide +kernel, rfl⟩
theorem iX5_readItem_64 : InB mX5_readItem 64 67 115 .goto := ⟨by decide +kernel, rfl⟩
theorem iX5_readItem_67 : Ins mX5_readItem 67 68 1 (.aload_n 0) := ⟨by decide +kernel, rfl⟩
theorem iX5_readItem_68 : Ins mX5_readItem 68 71 3 (.ldc_w 319) := ⟨by decide +kernel, rfl⟩
theorem iX5_readItem_71 : Ins mX5_readItem 71 74 3 (.invokevirtual 296) := ⟨by decide +kernel, rfl⟩
theorem iX5_readItem_74 : InB mX5_readItem 74 77 110 (.ifCond .eq) := ⟨by decide +kernel, rfl⟩
theorem iX5_readItem_77 : Ins mX5_readItem 77 78 1 (.aload_n 0) := ⟨by decide +kernel, rfl⟩
theorem iX5_readItem_78 : Ins mX5_readItem 78 79 1 (.iconst 0) := ⟨by decide +kernel, rfl⟩
theorem iX5_readItem_79 : Ins mX5_readItem 79 80 1 (.iconst 5) := ⟨by decide +kernel, rfl⟩
theorem iX5_readItem_80 : Ins mX5_readItem 80 83 3 (.invokevirtual 299) := ⟨by decide +kernel, rfl⟩
theorem iX5_readItem_83 : Ins mX5_readItem 83 84 1 (.istore_n 2) := ⟨by decide +kernel, rfl⟩
theorem iX5_readItem_84 : Ins mX5_readItem 84 85 1 (.aload_n 0) := ⟨by decide +kernel, rfl⟩
theorem iX5_readItem_85 : Ins mX5_readItem 85 86 1 (.iconst 0) := ⟨by decide +kernel, rfl⟩
theorem iX5_readItem_86 : Ins mX5_readItem 86 88 2 (.bipush 7) := ⟨by decide +kernel, rfl⟩
theorem iX5_readItem_88 : Ins mX5_readItem 88 91 3 (.invokevirtual 299) := ⟨by decide +kernel, rfl⟩
theorem iX5_readItem_91 : Ins mX5_readItem 91 92 1 (.istore_n 3) := ⟨by decide +kernel, rfl⟩
theorem iX5_readItem_92 : Ins mX5_readItem 92 93 1 (.aload_n 0) := ⟨by decide +kernel, rfl⟩
theorem iX5_readItem_93 : Ins mX5_readItem 93 95 2 (.bipush 11) := ⟨by decide +kernel, rfl⟩
theorem iX5_readItem_95 : Ins mX5_readItem 95 96 1 (.iload_n 2) := ⟨by decide +kernel, rfl⟩
theorem iX5_readItem_96 : Ins mX5_readItem 96 97 1 (.iload_n 3) := ⟨by decide +kernel, rfl⟩
theorem iX5_readItem_97 : Ins mX5_readItem 97 98 1 (.aload_n 0) := ⟨by decide +kernel, rfl⟩
theorem iX5_readItem_98 : Ins mX5_readItem 98 99 1 (.iconst 0) := ⟨by decide +kernel, rfl⟩
theorem iX5_readItem_99 : Ins mX5_readItem 99 101 2 (.bipush 7) := ⟨by decide +kernel, rfl⟩
theorem iX5_readItem_101 : Ins mX5_readItem 101 104 3 (.invokevirtual 299) := ⟨by decide +kernel, rfl⟩
theorem iX5_readItem_104 : Ins mX5_readItem 104 107 3 (.invokevirtual 304) := ⟨by decide +kernel, rfl⟩
theorem iX5_readItem_107 : InB mX5_readItem 107 110 115 .goto := ⟨by decide +kernel, rfl⟩
theorem iX5_readItem_110 : Ins mX5_readItem 110 111 1 (.aload_n 0) := ⟨by decide +kernel, rfl⟩
theorem iX5_readItem_111 : Ins mX5_readItem 111 112 1 (.iconst 0) := ⟨by decide +kernel, rfl⟩
theorem iX5_readItem_112 : Ins mX5_readItem 112 115 3 (.invokevirtual 280) := ⟨by decide +kernel, rfl⟩
theorem iX5_readItem_115 : Ins mX5_readItem 115 116 1 (.return_) := ⟨by decide +kernel, rfl⟩
theorem iX5_isToldSo_0 : Ins mX5_isToldSo 0 1 1 (.aload_n 0) := ⟨by decide +kernel, rfl⟩
theorem iX5_isToldSo_1 : Ins mX5_isToldSo 1 4 3 (.getfield 45) := ⟨by decide +kernel, rfl⟩
theorem iX5_isToldSo_4 : Ins mX5_isToldSo 4 5 1 (.iload_n 1) := ⟨by decide +kernel, rfl⟩
theorem iX5_isToldSo_5 : Ins mX5_isToldSo 5 6 1 (.iconst 1) := ⟨by decide +kernel, rfl⟩
theorem iX5_isToldSo_6 : Ins mX5_isToldSo 6 7 1 (.iadd) := ⟨by decide +kernel, rfl⟩
theorem iX5_isToldSo_7 : Ins mX5_isToldSo 7 8 1 (.iaload) := ⟨by decide +kernel, rfl⟩
theorem iX5_isToldSo_8 : Ins mX5_isToldSo 8 9 1 (.istore_n 2) := ⟨by decide +kernel, rfl⟩
theorem iX5_isToldSo_9 : Ins mX5_isToldSo 9 10 1 (.aload_n 0) := ⟨by decide +kernel, rfl⟩
theorem iX5_isToldSo_10 : Ins mX5_isToldSo 10 13 3 (.getfield 45) := ⟨by decide +kernel, rfl⟩
theorem iX5_isToldSo_13 : Ins mX5_isToldSo 13 14 1 (.iload_n 1) := ⟨by decide +kernel, rfl⟩
theorem iX5_isToldSo_14 : Ins mX5_isToldSo 14 15 1 (.iconst 2) := ⟨by decide +kernel, rfl⟩
theorem iX5_isToldSo_15 : Ins mX5_isToldSo 15 16 1 (.iadd) := ⟨by decide +kernel, rfl⟩
theorem iX5_isToldSo_16 : Ins mX5_isToldSo 16 17 1 (.iaload) := ⟨by decide +kernel, rfl⟩
theorem iX5_isToldSo_17 : Ins mX5_isToldSo 17 18 1 (.istore_n 3) := ⟨by decide +kernel, rfl⟩
theorem iX5_isToldSo_18 : Ins mX5_isToldSo 18 19 1 (.aload_n 0) := ⟨by decide +kernel, rfl⟩
theorem iX5_isToldSo_19 : Ins mX5_isToldSo 19 22 3 (.getfield 45) := ⟨by decide +kernel, rfl⟩
theorem iX5_isToldSo_22 : Ins mX5_isToldSo 22 23 1 (.iload_n 1) := ⟨by decide +kernel, rfl⟩
theorem iX5_isToldSo_23 : Ins mX5_isToldSo 23 24 1 (.iconst 3) := ⟨by decide +kernel, rfl⟩
theorem iX5_isToldSo_24 : Ins mX5_isToldSo 24 25 1 (.iadd) := ⟨by decide +kernel, rfl⟩
theorem iX5_isToldSo_25 : Ins mX5_isToldSo 25 26 1 (.iaload) := ⟨by decide +kernel, rfl⟩
theorem iX5_isToldSo_26 : Ins mX5_isToldSo 26 28 2 (.istore 4) := ⟨by decide +kernel, rfl⟩
theorem iX5_isToldSo_28 : Ins mX5_isToldSo 28 29 1 (.aload_n 0) := ⟨by decide +kernel, rfl⟩
theorem iX5_isToldSo_29 : Ins mX5_isToldSo 29 32 3 (.getfield 45) := ⟨by decide +kernel, rfl⟩
theorem iX5_isToldSo_32 : Ins mX5_isToldSo 32 33 1 (.iload_n 1) := ⟨by decide +kernel, rfl⟩
theorem iX5_isToldSo_33 : Ins mX5_isToldSo 33 34 1 (.iaload) := ⟨by decide +kernel, rfl⟩
theorem iX5_isToldSo_34 : decode mX5_isToldSo.2.1 34 = .ok (.lookupswitch 56 #[(10, 26), (11, 38)], 26) := by decide +kernel
theorem iX5_isToldSo_60 : Ins mX5_isToldSo 60 61 1 (.aload_n 0) := ⟨by decide +kernel, rfl⟩
theorem iX5_isToldSo_61 : Ins mX5_isToldSo 61 62 1 (.iload_n 2) := ⟨by decide +kernel, rfl⟩
theorem iX5_isToldSo_62 : Ins mX5_isToldSo 62 63 1 (.iload_n 3) := ⟨by decide +kernel, rfl⟩
theorem iX5_isToldSo_63 : Ins mX5_isToldSo 63 65 2 (.iload 4) := ⟨by decide +kernel, rfl⟩
theorem iX5_isToldSo_65 : Ins mX5_isToldSo 65 68 3 (.invokevirtual 108) := ⟨by decide +kernel, rfl⟩
theorem iX5_isToldSo_68 : Ins mX5_isToldSo 68 69 1 (.pop) := ⟨by decide +kernel, rfl⟩
theorem iX5_isToldSo_69 : InB mX5_isToldSo 69 72 115 .goto := ⟨by decide +kernel, rfl⟩
theorem iX5_isToldSo_72 : Ins mX5_isToldSo 72 73 1 (.aload_n 0) := ⟨by decide +kernel, rfl⟩
theorem iX5_isToldSo_73 : Ins mX5_isToldSo 73 76 3 (.getfield 9) := ⟨by decide +kernel, rfl⟩
theorem iX5_isToldSo_76 : Ins mX5_isToldSo 76 77 1 (.iconst 5) := ⟨by decide +kernel, rfl⟩
theorem iX5_isToldSo_77 : Ins mX5_isToldSo 77 78 1 (.iload_n 2) := ⟨by decide +kernel, rfl⟩
theorem iX5_isToldSo_78 : Ins mX5_isToldSo 78 79 1 (.iadd) := ⟨by decide +kernel, rfl⟩
theorem iX5_isToldSo_79 : Ins mX5_isToldSo 79 81 2 (.bipush 10) := ⟨by decide +kernel, rfl⟩
theorem iX5_isToldSo_81 : Ins mX5_isToldSo 81 82 1 (.iload_n 3) := ⟨by decide +kernel, rfl⟩
theorem iX5_isToldSo_82 : Ins mX5_isToldSo 82 83 1 (.imul) := ⟨by decide +kernel, rfl⟩
theorem iX5_isToldSo_83 : Ins mX5_isToldSo 83 85 2 (.iload 4) := ⟨by decide +kernel, rfl⟩
theorem iX5_isToldSo_85 : Ins mX5_isToldSo 85 86 1 (.iadd) := ⟨by decide +kernel, rfl⟩
theorem iX5_isToldSo_86 : Ins mX5_isToldSo 86 87 1 (.iastore) := ⟨by decide +kernel, rfl⟩
theorem iX5_isToldSo_87 : InB mX5_isToldSo 87 90 115 .goto := ⟨by decide +kernel, rfl⟩
theorem iX5_isToldSo_90 : Ins mX5_isToldSo 90 91 1 (.aload_n 0) := ⟨by decide +kernel, rfl⟩
theorem iX5_isToldSo_91 : Ins mX5_isToldSo 91 92 1 (.aload_n 0) := ⟨by decide +kernel, rfl⟩
theorem iX5_isToldSo_92 : Ins mX5_isToldSo 92 95 3 (.getfield 45) := ⟨by decide +kernel, rfl⟩
theorem iX5_isToldSo_95 : Ins mX5_isToldSo 95 96 1 (.iload_n 1) := ⟨by decide +kernel, rfl⟩
theorem iX5_isToldSo_96 : Ins mX5_isToldSo 96 97 1 (.iaload) := ⟨by decide +kernel, rfl⟩
theorem iX5_isToldSo_97 : Ins mX5_isToldSo 97 98 1 (.iload_n 2) := ⟨by decide +kernel, rfl⟩
theorem iX5_isToldSo_98 : Ins mX5_isToldSo 98 101 3 (.invokevirtual 98) := ⟨by decide +kernel, rfl⟩
theorem iX5_isToldSo_101 : Ins mX5_isToldSo 101 103 2 (.istore 5) := ⟨by decide +kernel, rfl⟩
theorem iX5_isToldSo_103 : Ins mX5_isToldSo 103 104 1 (.aload_n 0) := ⟨by decide +kernel, rfl⟩
theorem iX5_isToldSo_104 : Ins mX5_isToldSo 104 107 3 (.getfield 9) := ⟨by decide +kernel, rfl⟩
theorem iX5_isToldSo_107 : Ins mX5_isToldSo 107 109 2 (.iload 5) := ⟨by decide +kernel, rfl⟩
theorem iX5_isToldSo_109 : Ins mX5_isToldSo 109 110 1 (.iconst 2) := ⟨by decide +kernel, rfl⟩
theorem iX5_isToldSo_110 : Ins mX5_isToldSo 110 113 3 (.invokestatic 85) := ⟨by decide +kernel, rfl⟩
theorem iX5_isToldSo_113 : Ins mX5_isToldSo 113 114 1 (.iload_n 3) := ⟨by decide +kernel, rfl⟩
theorem iX5_isToldSo_114 : Ins mX5_isToldSo 114 115 1 (.iastore) := ⟨by decide +kernel, rfl⟩
theorem iX5_isToldSo_115 : Ins mX5_isToldSo 115 116 1 (.return_) := ⟨by decide +kernel, rfl⟩
theorem iX5_text_0 : Ins mX5_text 0 1 1 (.aload_n 0) := ⟨by decide +kernel, rfl⟩
theorem iX5_text_1 : Ins mX5_text 1 2 1 (.iconst 0) := ⟨by decide +kernel, rfl⟩
theorem iX5_text_2 : Ins mX5_text 2 5 3 (.putfield 251) := ⟨by decide +kernel, rfl⟩
theorem iX5_text_5 : Ins mX5_text 5 6 1 (.aload_n 0) := ⟨by decide +kernel, rfl⟩
theorem iX5_text_6 : Ins mX5_text 6 7 1 (.iconst 0) := ⟨by decide +kernel, rfl⟩
theorem iX5_text_7 : Ins mX5_text 7 10 3 (.putfield 273) := ⟨by decide +kernel, rfl⟩
theorem iX5_text_10 : Ins mX5_text 10 11 1 (.aload_n 0) := ⟨by decide +kernel, rfl⟩
theorem iX5_text_11 : Ins mX5_text 11 12 1 (.iconst 0) := ⟨by decide +kernel, rfl⟩
theorem iX5_text_12 : Ins mX5_text 12 15 3 (.putfield 284) := ⟨by decide +kernel, rfl⟩
theorem iX5_text_15 : Ins mX5_text 15 16 1 (.aload_n 0) := ⟨by decide +kernel, rfl⟩
theorem iX5_text_16 : Ins mX5_text 16 17 1 (.aload_n 0) := ⟨by decide +kernel, rfl⟩
theorem iX5_text_17 : Ins mX5_text 17 20 3 (.getfield 9) := ⟨by decide +kernel, rfl⟩
theorem iX5_text_20 : Ins mX5_text 20 21 1 (.iconst 1) := ⟨by decide +kernel, rfl⟩
theorem iX5_text_21 : Ins mX5_text 21 22 1 (.iaload) := ⟨by decide +kernel, rfl⟩
theorem iX5_text_22 : Ins mX5_text 22 25 3 (.putfield 291) := ⟨by decide +kernel, rfl⟩
theorem iX5_text_25 : Ins mX5_text 25 26 1 (.aload_n 0) := ⟨by decide +kernel, rfl⟩
theorem iX5_text_26 : Ins mX5_text 26 27 1 (.aload_n 0) := ⟨by decide +kernel, rfl⟩
theorem iX5_text_27 : Ins mX5_text 27 30 3 (.getfield 9) := ⟨by decide +kernel, rfl⟩
theorem iX5_text_30 : Ins mX5_text 30 31 1 (.iconst 3) := ⟨by decide +kernel, rfl⟩
theorem iX5_text_31 : Ins mX5_text 31 32 1 (.iaload) := ⟨by decide +kernel, rfl⟩
theorem iX5_text_32 : Ins mX5_text 32 35 3 (.putfield 308) := ⟨by decide +kernel, rfl⟩
theorem iX5_text_35 : Ins mX5_text 35 36 1 (.aload_n 0) := ⟨by decide +kernel, rfl⟩
theorem iX5_text_36 : Ins mX5_text 36 39 3 (.invokevirtual 277) := ⟨by decide +kernel, rfl⟩
theorem iX5_text_39 : Ins mX5_text 39 40 1 (.aload_n 0) := ⟨by decide +kernel, rfl⟩
theorem iX5_text_40 : Ins mX5_text 40 43 3 (.invokevirtual 321) := ⟨by decide +kernel, rfl⟩
theorem iX5_text_43 : Ins mX5_text 43 44 1 (.aload_n 0) := ⟨by decide +kernel, rfl⟩
theorem iX5_text_44 : Ins mX5_text 44 47 3 (.getfield 273) := ⟨by decide +kernel, rfl⟩
theorem iX5_text_47 : InB mX5_text 47 50 84 (.ifCond .ne) := ⟨by decide +kernel, rfl⟩
theorem iX5_text_50 : Ins mX5_text 50 51 1 (.aload_n 0) := ⟨by decide +kernel, rfl⟩
theorem iX5_text_51 : Ins mX5_text 51 54 3 (.getfield 263) := ⟨by decide +kernel, rfl⟩
theorem iX5_text_54 : Ins mX5_text 54 55 1 (.iconst 3) := ⟨by decide +kernel, rfl⟩
theorem iX5_text_55 : InB mX5_text 55 58 84 (.if_icmp .ne) := ⟨by decide +kernel, rfl⟩
theorem iX5_text_58 : Ins mX5_text 58 59 1 (.aload_n 0) := ⟨by decide +kernel, rfl⟩
theorem iX5_text_59 : Ins mX5_text 59 62 3 (.getfield 22) := ⟨by decide +kernel, rfl⟩
theorem iX5_text_62 : Ins mX5_text 62 63 1 (.aload_n 0) := ⟨by decide +kernel, rfl⟩
theorem iX5_text_63 : Ins mX5_text 63 66 3 (.getfield 254) := ⟨by decide +kernel, rfl⟩
theorem iX5_text_66 : Ins mX5_text 66 67 1 (.iaload) := ⟨by decide +kernel, rfl⟩
theorem iX5_text_67 : Ins mX5_text 67 69 2 (.bipush 59) := ⟨by decide +kernel, rfl⟩
theorem iX5_text_69 : InB mX5_text 69 72 84 (.if_icmp .ne) := ⟨by decide +kernel, rfl⟩
theorem iX5_text_72 : Ins mX5_text 72 73 1 (.aload_n 0) := ⟨by decide +kernel, rfl⟩
theorem iX5_text_73 : Ins mX5_text 73 74 1 (.iconst 1) := ⟨by decide +kernel, rfl⟩
theorem iX5_text_74 : Ins mX5_text 74 77 3 (.invokevirtual 280) := ⟨by decide +kernel, rfl⟩
theorem iX5_text_77 : Ins mX5_text 77 78 1 (.aload_n 0) := ⟨by decide +kernel, rfl⟩
theorem iX5_text_78 : Ins mX5_text 78 81 3 (.invokevirtual 321) := ⟨by decide +kernel, rfl⟩
theorem iX5_text_81 : InB mX5_text 81 84 43 .goto := ⟨by decide +kernel, rfl⟩
theorem iX5_text_84 : Ins mX5_text 84 85 1 (.aload_n 0) := ⟨by decide +kernel, rfl⟩
theorem iX5_text_85 : Ins mX5_text 85 86 1 (.aload_n 0) := ⟨by decide +kernel, rfl⟩
theorem iX5_text_86 : Ins mX5_text 86 89 3 (.getfield 263) := ⟨by decide +kernel, rfl⟩
theorem iX5_text_89 : InB mX5_text 89 92 96 (.ifCond .ne) := ⟨by decide +kernel, rfl⟩
theorem iX5_text_92 : Ins mX5_text 92 93 1 (.iconst 1) := ⟨by decide +kernel, rfl⟩
theorem iX5_text_93 : InB mX5_text 93 96 97 .goto := ⟨by decide +kernel, rfl⟩
theorem iX5_text_96 : Ins mX5_text 96 97 1 (.iconst 0) := ⟨by decide +kernel, rfl⟩
theorem iX5_text_97 : Ins mX5_text 97 100 3 (.invokevirtual 280) := ⟨by decide +kernel, rfl⟩
theorem iX5_text_100 : Ins mX5_text 100 101 1 (.aload_n 0) := ⟨by decide +kernel, rfl⟩
theorem iX5_text_101 : Ins mX5_text 101 102 1 (.iconst 0) := ⟨by decide +kernel, rfl⟩
theorem iX5_text_102 : Ins mX5_text 102 105 3 (.putfield 247) := ⟨by decide +kernel, rfl⟩
theorem iX5_text_105 : Ins mX5_text 105 106 1 (.aload_n 0) := ⟨by decide +kernel, rfl⟩
theorem iX5_text_106 : Ins mX5_text 106 109 3 (.getfield 273) := ⟨by decide +kernel, rfl⟩
theorem iX5_text_109 : InB mX5_text 109 112 119 (.ifCond .eq) := ⟨by decide +kernel, rfl⟩
theorem iX5_text_112 : Ins mX5_text 112 113 1 (.iconst (-1)) := ⟨by decide +kernel, rfl⟩
theorem iX5_text_113 : Ins mX5_text 113 114 1 (.aload_n 0) := ⟨by decide +kernel, rfl⟩
theorem iX5_text_114 : Ins mX5_text 114 117 3 (.getfield 254) := ⟨by decide +kernel, rfl⟩
theorem iX5_text_117 : Ins mX5_text 117 118 1 (.isub) := ⟨by decide +kernel, rfl⟩
theorem iX5_text_118 : Ins mX5_text 118 119 1 (.ireturn) := ⟨by decide +kernel, rfl⟩
theorem iX5_text_119 : Ins mX5_text 119 120 1 (.iconst 0) := ⟨by decide +kernel, rfl⟩
theorem iX5_text_120 : Ins mX5_text 120 121 1 (.istore_n 1) := ⟨by decide +kernel, rfl⟩
theorem iX5_text_121 : Ins mX5_text 121 122 1 (.iload_n 1) := ⟨by decide +kernel, rfl⟩
theorem iX5_text_122 : Ins mX5_text 122 123 1 (.aload_n 0) := ⟨by decide +kernel, rfl⟩
theorem iX5_text_123 : Ins mX5_text 123 126 3 (.getfield 284) := ⟨by decide +kernel, rfl⟩
theorem iX5_text_126 : InB mX5_text 126 129 142 (.if_icmp .ge) := ⟨by decide +kernel, rfl⟩
theorem iX5_text_129 : Ins mX5_text 129 130 1 (.aload_n 0) := ⟨by decide +kernel, rfl⟩
theorem iX5_text_130 : Ins mX5_text 130 131 1 (.iconst 4) := ⟨by decide +kernel, rfl⟩
theorem iX5_text_131 : Ins mX5_text 131 132 1 (.iload_n 1) := ⟨by decide +kernel, rfl⟩
theorem iX5_text_132 : Ins mX5_text 132 133 1 (.imul) := ⟨by decide +kernel, rfl⟩
theorem iX5_text_133 : Ins mX5_text 133 136 3 (.invokevirtual 324) := ⟨by decide +kernel, rfl⟩
theorem iX5_text_136 : Ins mX5_text 136 139 3 (.iinc 1 1) := ⟨by decide +kernel, rfl⟩
theorem iX5_text_139 : InB mX5_text 139 142 121 .goto := ⟨by decide +kernel, rfl⟩
theorem iX5_text_142 : Ins mX5_text 142 143 1 (.aload_n 0) := ⟨by decide +kernel, rfl⟩
theorem iX5_text_143 : Ins mX5_text 143 146 3 (.getfield 284) := ⟨by decide +kernel, rfl⟩
theorem iX5_text_146 : Ins mX5_text 146 147 1 (.ireturn) := ⟨by decide +kernel, rfl⟩
theorem iX5_isSpot_0 : Ins mX5_isSpot 0 1 1 (.iload_n 0) := ⟨by decide +kernel, rfl⟩
theorem iX5_isSpot_1 : Ins mX5_isSpot 1 2 1 (.iconst 0) := ⟨by decide +kernel, rfl⟩
theorem iX5_isSpot_2 : Ins mX5_isSpot 2 4 2 (.bipush 9) := ⟨by decide +kernel, rfl⟩
theorem iX5_isSpot_4 : Ins mX5_isSpot 4 7 3 (.invokestatic 70) := ⟨by decide +kernel, rfl⟩
theorem iX5_isSpot_7 : Ins mX5_isSpot 7 8 1 (.ireturn) := ⟨by decide +kernel, rfl⟩
theorem iX5_hold_0 : Ins mX5_hold 0 1 1 (.iload_n 1) := ⟨by decide +kernel, rfl⟩
theorem iX5_hold_1 : Ins mX5_hold 1 4 3 (.invokestatic 327) := ⟨by decide +kernel, rfl⟩
theorem iX5_hold_4 : InB mX5_hold 4 7 20 (.ifCond .eq) := ⟨by decide +kernel, rfl⟩
theorem iX5_hold_7 : Ins mX5_hold 7 8 1 (.iload_n 2) := ⟨by decide +kernel, rfl⟩
theorem iX5_hold_8 : Ins mX5_hold 8 9 1 (.iconst (-1)) := ⟨by decide +kernel, rfl⟩
theorem iX5_hold_9 : InB mX5_hold 9 12 27 (.if_icmp .eq) := ⟨by decide +kernel, rfl⟩
theorem iX5_hold_12 : Ins mX5_hold 12 13 1 (.aload_n 0) := ⟨by decide +kernel, rfl⟩
theorem iX5_hold_13 : Ins mX5_hold 13 14 1 (.iload_n 2) := ⟨by decide +kernel, rfl⟩
theorem iX5_hold_14 : Ins mX5_hold 14 17 3 (.invokevirtual 105) := ⟨by decide +kernel, rfl⟩
theorem iX5_hold_17 : InB mX5_hold 17 20 27 (.ifCond .ne) := ⟨by decide +kernel, rfl⟩
theorem iX5_hold_20 : Ins mX5_hold 20 21 1 (.aload_n 0) := ⟨by decide +kernel, rfl⟩
theorem iX5_hold_21 : Ins mX5_hold 21 23 2 (.ldc 60) := ⟨by decide +kernel, rfl⟩
theorem iX5_hold_23 : Ins mX5_hold 23 26 3 (.invokevirtual 66) := ⟨by decide +kernel, rfl⟩
theorem iX5_hold_26 : Ins mX5_hold 26 27 1 (.ireturn) := ⟨by decide +kernel, rfl⟩
theorem iX5_hold_27 : Ins mX5_hold 27 28 1 (.aload_n 0) := ⟨by decide +kernel, rfl⟩
theorem iX5_hold_28 : Ins mX5_hold 28 31 3 (.getfield 9) := ⟨by decide +kernel, rfl⟩
theorem iX5_hold_31 : Ins mX5_hold 31 33 2 (.bipush 11) := ⟨by decide +kernel, rfl⟩
theorem iX5_hold_33 : Ins mX5_hold 33 34 1 (.iload_n 1) := ⟨by decide +kernel, rfl⟩
theorem iX5_hold_34 : Ins mX5_hold 34 35 1 (.iadd) := ⟨by decide +kernel, rfl⟩
theorem iX5_hold_35 : Ins mX5_hold 35 36 1 (.iload_n 2) := ⟨by decide +kernel, rfl⟩
theorem iX5_hold_36 : Ins mX5_hold 36 37 1 (.iastore) := ⟨by decide +kernel, rfl⟩
theorem iX5_hold_37 : Ins mX5_hold 37 38 1 (.iconst 1) := ⟨by decide +kernel, rfl⟩
theorem iX5_hold_38 : Ins mX5_hold 38 39 1 (.ireturn) := ⟨by decide +kernel, rfl⟩
theorem iX5_as_0 : Ins mX5_as 0 1 1 (.iload_n 1) := ⟨by decide +kernel, rfl⟩
theorem iX5_as_1 : Ins mX5_as 1 4 3 (.invokestatic 327) := ⟨by decide +kernel, rfl⟩
theorem iX5_as_4 : InB mX5_as 4 7 14 (.ifCond .eq) := ⟨by decide +kernel, rfl⟩
theorem iX5_as_7 : Ins mX5_as 7 8 1 (.iload_n 2) := ⟨by decide +kernel, rfl⟩
theorem iX5_as_8 : Ins mX5_as 8 11 3 (.invokestatic 91) := ⟨by decide +kernel, rfl⟩
theorem iX5_as_11 : InB mX5_as 11 14 21 (.ifCond .ne) := ⟨by decide +kernel, rfl⟩
theorem iX5_as_14 : Ins mX5_as 14 15 1 (.aload_n 0) := ⟨by decide +kernel, rfl⟩
theorem iX5_as_15 : Ins mX5_as 15 17 2 (.ldc 60) := ⟨by decide +kernel, rfl⟩
theorem iX5_as_17 : Ins mX5_as 17 20 3 (.invokevirtual 66) := ⟨by decide +kernel, rfl⟩
theorem iX5_as_20 : Ins mX5_as 20 21 1 (.ireturn) := ⟨by decide +kernel, rfl⟩
theorem iX5_as_21 : Ins mX5_as 21 22 1 (.aload_n 0) := ⟨by decide +kernel, rfl⟩
theorem iX5_as_22 : Ins mX5_as 22 25 3 (.getfield 9) := ⟨by decide +kernel, rfl⟩
theorem iX5_as_25 : Ins mX5_as 25 27 2 (.bipush 11) := ⟨by decide +kernel, rfl⟩
theorem iX5_as_27 : Ins mX5_as 27 28 1 (.iload_n 1) := ⟨by decide +kernel, rfl⟩
theorem iX5_as_28 : Ins mX5_as 28 29 1 (.iadd) := ⟨by decide +kernel, rfl⟩
theorem iX5_as_29 : Ins mX5_as 29 30 1 (.iaload) := ⟨by decide +kernel, rfl⟩
theorem iX5_as_30 : Ins mX5_as 30 31 1 (.istore_n 3) := ⟨by decide +kernel, rfl⟩
theorem iX5_as_31 : Ins mX5_as 31 32 1 (.iload_n 3) := ⟨by decide +kernel, rfl⟩
theorem iX5_as_32 : InB mX5_as 32 35 42 (.ifCond .ge) := ⟨by decide +kernel, rfl⟩
theorem iX5_as_35 : Ins mX5_as 35 36 1 (.aload_n 0) := ⟨by decide +kernel, rfl⟩
theorem iX5_as_36 : Ins mX5_as 36 38 2 (.ldc 235) := ⟨by decide +kernel, rfl⟩
theorem iX5_as_38 : Ins mX5_as 38 41 3 (.invokevirtual 66) := ⟨by decide +kernel, rfl⟩
theorem iX5_as_41 : Ins mX5_as 41 42 1 (.ireturn) := ⟨by decide +kernel, rfl⟩
theorem iX5_as_42 : Ins mX5_as 42 43 1 (.aload_n 0) := ⟨by decide +kernel, rfl⟩
theorem iX5_as_43 : Ins mX5_as 43 44 1 (.iload_n 3) := ⟨by decide +kernel, rfl⟩
theorem iX5_as_44 : Ins mX5_as 44 45 1 (.iconst 0) := ⟨by decide +kernel, rfl⟩
theorem iX5_as_45 : Ins mX5_as 45 48 3 (.invokevirtual 122) := ⟨by decide +kernel, rfl⟩
theorem iX5_as_48 : Ins mX5_as 48 49 1 (.iload_n 2) := ⟨by decide +kernel, rfl⟩
theorem iX5_as_49 : Ins mX5_as 49 52 3 (.invokestatic 330) := ⟨by decide +kernel, rfl⟩
theorem iX5_as_52 : InB mX5_as 52 55 59 (.ifCond .eq) := ⟨by decide +kernel, rfl⟩
theorem iX5_as_55 : Ins mX5_as 55 56 1 (.iload_n 3) := ⟨by decide +kernel, rfl⟩
theorem iX5_as_56 : InB mX5_as 56 59 66 .goto := ⟨by decide +kernel, rfl⟩
theorem iX5_as_59 : Ins mX5_as 59 60 1 (.aload_n 0) := ⟨by decide +kernel, rfl⟩
theorem iX5_as_60 : Ins mX5_as 60 63 3 (.ldc_w 333) := ⟨by decide +kernel, rfl⟩
theorem iX5_as_63 : Ins mX5_as 63 66 3 (.invokevirtual 66) := ⟨by decide +kernel, rfl⟩
theorem iX5_as_66 : Ins mX5_as 66 67 1 (.ireturn) := ⟨by decide +kernel, rfl⟩
theorem iX5_isSheet_0 : Ins mX5_isSheet 0 1 1 (.iload_n 0) := ⟨by decide +kernel, rfl⟩
theorem iX5_isSheet_1 : Ins mX5_isSheet 1 2 1 (.iconst 0) := ⟨by decide +kernel, rfl⟩
theorem iX5_isSheet_2 : Ins mX5_isSheet 2 3 1 (.iconst 3) := ⟨by decide +kernel, rfl⟩
theorem iX5_isSheet_3 : Ins mX5_isSheet 3 6 3 (.invokestatic 70) := ⟨by decide +kernel, rfl⟩
theorem iX5_isSheet_6 : Ins mX5_isSheet 6 7 1 (.ireturn) := ⟨by decide +kernel, rfl⟩
theorem iX5_cutTo_0 : Ins mX5_cutTo 0 1 1 (.iload_n 1) := ⟨by decide +kernel, rfl⟩
theorem iX5_cutTo_1 : Ins mX5_cutTo 1 3 2 (.bipush 8) := ⟨by decide +kernel, rfl⟩
theorem iX5_cutTo_3 : InB mX5_cutTo 3 6 11 (.if_icmp .ne) := ⟨by decide +kernel, rfl⟩
theorem iX5_cutTo_6 : Ins mX5_cutTo 6 7 1 (.iload_n 0) := ⟨by decide +kernel, rfl⟩
theorem iX5_cutTo_7 : Ins mX5_cutTo 7 8 1 (.i2b) := ⟨by decide +kernel, rfl⟩
theorem iX5_cutTo_8 : InB mX5_cutTo 8 11 23 .goto := ⟨by decide +kernel, rfl⟩
theorem iX5_cutTo_11 : Ins mX5_cutTo 11 12 1 (.iload_n 1) := ⟨by decide +kernel, rfl⟩
theorem iX5_cutTo_12 : Ins mX5_cutTo 12 14 2 (.bipush 16) := ⟨by decide +kernel, rfl⟩
theorem iX5_cutTo_14 : InB mX5_cutTo 14 17 22 (.if_icmp .ne) := ⟨by decide +kernel, rfl⟩
theorem iX5_cutTo_17 : Ins mX5_cutTo 17 18 1 (.iload_n 0) := ⟨by decide +kernel, rfl⟩
theorem iX5_cutTo_18 : Ins mX5_cutTo 18 19 1 (.i2s) := ⟨by decide +kernel, rfl⟩
theorem iX5_cutTo_19 : InB mX5_cutTo 19 22 23 .goto := ⟨by decide +kernel, rfl⟩
theorem iX5_cutTo_22 : Ins mX5_cutTo 22 23 1 (.iload_n 0) := ⟨by decide +kernel, rfl⟩
theorem iX5_cutTo_23 : Ins mX5_cutTo 23 24 1 (.ireturn) := ⟨by decide +kernel, rfl⟩
theorem iX5_sheet_0 : Ins mX5_sheet 0 1 1 (.iload_n 1) := ⟨by decide +kernel, rfl⟩
theorem iX5_sheet_1 : Ins mX5_sheet 1 4 3 (.invokestatic 232) := ⟨by decide +kernel, rfl⟩
theorem iX5_sheet_4 : InB mX5_sheet 4 7 29 (.ifCond .eq) := ⟨by decide +kernel, rfl⟩
theorem iX5_sheet_7 : Ins mX5_sheet 7 8 1 (.iload_n 2) := ⟨by decide +kernel, rfl⟩
theorem iX5_sheet_8 : InB mX5_sheet 8 11 36 (.ifCond .eq) := ⟨by decide +kernel, rfl⟩
theorem iX5_sheet_11 : Ins mX5_sheet 11 12 1 (.iload_n 2) := ⟨by decide +kernel, rfl⟩
theorem iX5_sheet_12 : Ins mX5_sheet 12 14 2 (.bipush 8) := ⟨by decide +kernel, rfl⟩
theorem iX5_sheet_14 : InB mX5_sheet 14 17 36 (.if_icmp .eq) := ⟨by decide +kernel, rfl⟩
theorem iX5_sheet_17 : Ins mX5_sheet 17 18 1 (.iload_n 2) := ⟨by decide +kernel, rfl⟩
theorem iX5_sheet_18 : Ins mX5_sheet 18 20 2 (.bipush 16) := ⟨by decide +kernel, rfl⟩
theorem iX5_sheet_20 : InB mX5_sheet 20 23 36 (.if_icmp .eq) := ⟨by decide +kernel, rfl⟩
theorem iX5_sheet_23 : Ins mX5_sheet 23 24 1 (.iload_n 2) := ⟨by decide +kernel, rfl⟩
theorem iX5_sheet_24 : Ins mX5_sheet 24 26 2 (.bipush 32) := ⟨by decide +kernel, rfl⟩
theorem iX5_sheet_26 : InB mX5_sheet 26 29 36 (.if_icmp .eq) := ⟨by decide +kernel, rfl⟩
theorem iX5_sheet_29 : Ins mX5_sheet 29 30 1 (.aload_n 0) := ⟨by decide +kernel, rfl⟩
theorem iX5_sheet_30 : Ins mX5_sheet 30 32 2 (.ldc 60) := ⟨by decide +kernel, rfl⟩
theorem iX5_sheet_32 : Ins mX5_sheet 32 35 3 (.invokevirtual 66) := ⟨by decide +kernel, rfl⟩
theorem iX5_sheet_35 : Ins mX5_sheet 35 36 1 (.ireturn) := ⟨by decide +kernel, rfl⟩
theorem iX5_sheet_36 : Ins mX5_sheet 36 37 1 (.iload_n 3) := ⟨by decide +kernel, rfl⟩
theorem iX5_sheet_37 : InB mX5_sheet 37 40 48 (.ifCond .ge) := ⟨by decide +kernel, rfl⟩
theorem iX5_sheet_40 : Ins mX5_sheet 40 41 1 (.aload_n 0) := ⟨by decide +kernel, rfl⟩
theorem iX5_sheet_41 : Ins mX5_sheet 41 44 3 (.ldc_w 334) := ⟨by decide +kernel, rfl⟩
theorem iX5_sheet_44 : Ins mX5_sheet 44 47 3 (.invokevirtual 66) := ⟨by decide +kernel, rfl⟩
theorem iX5_sheet_47 : Ins mX5_sheet 47 48 1 (.ireturn) := ⟨by decide +kernel, rfl⟩
theorem iX5_sheet_48 : Ins mX5_sheet 48 49 1 (.iload_n 3) := ⟨by decide +kernel, rfl⟩
theorem iX5_sheet_49 : Ins mX5_sheet 49 51 2 (.bipush 40) := ⟨by decide +kernel, rfl⟩
theorem iX5_sheet_51 : InB mX5_sheet 51 54 61 (.if_icmp .le) := ⟨by decide +kernel, rfl⟩
theorem iX5_sheet_54 : Ins mX5_sheet 54 55 1 (.aload_n 0) := ⟨by decide +kernel, rfl⟩
theorem iX5_sheet_55 : Ins mX5_sheet 55 57 2 (.ldc 60) := ⟨by decide +kernel, rfl⟩
theorem iX5_sheet_57 : Ins mX5_sheet 57 60 3 (.invokevirtual 66) := ⟨by decide +kernel, rfl⟩
theorem iX5_sheet_60 : Ins mX5_sheet 60 61 1 (.ireturn) := ⟨by decide +kernel, rfl⟩
theorem iX5_sheet_61 : Ins mX5_sheet 61 62 1 (.aload_n 0) := ⟨by decide +kernel, rfl⟩
theorem iX5_sheet_62 : Ins mX5_sheet 62 65 3 (.getfield 48) := ⟨by decide +kernel, rfl⟩
theorem iX5_sheet_65 : Ins mX5_sheet 65 66 1 (.iload_n 1) := ⟨by decide +kernel, rfl⟩
theorem iX5_sheet_66 : Ins mX5_sheet 66 67 1 (.iload_n 2) := ⟨by decide +kernel, rfl⟩
theorem iX5_sheet_67 : Ins mX5_sheet 67 68 1 (.iastore) := ⟨by decide +kernel, rfl⟩
theorem iX5_sheet_68 : Ins mX5_sheet 68 69 1 (.aload_n 0) := ⟨by decide +kernel, rfl⟩
theorem iX5_sheet_69 : Ins mX5_sheet 69 72 3 (.getfield 51) := ⟨by decide +kernel, rfl⟩
theorem iX5_sheet_72 : Ins mX5_sheet 72 73 1 (.iload_n 1) := ⟨by decide +kernel, rfl⟩
theorem iX5_sheet_73 : Ins mX5_sheet 73 74 1 (.iload_n 2) := ⟨by decide +kernel, rfl⟩
theorem iX5_sheet_74 : InB mX5_sheet 74 77 81 (.ifCond .ne) := ⟨by decide +kernel, rfl⟩
theorem iX5_sheet_77 : Ins mX5_sheet 77 78 1 (.iconst 0) := ⟨by decide +kernel, rfl⟩
theorem iX5_sheet_78 : InB mX5_sheet 78 81 82 .goto := ⟨by decide +kernel, rfl⟩
theorem iX5_sheet_81 : Ins mX5_sheet 81 82 1 (.iload_n 3) := ⟨by decide +kernel, rfl⟩
theorem iX5_sheet_82 : Ins mX5_sheet 82 83 1 (.iastore) := ⟨by decide +kernel, rfl⟩
theorem iX5_sheet_83 : Ins mX5_sheet 83 84 1 (.iconst 0) := ⟨by decide +kernel, rfl⟩
theorem iX5_sheet_84 : Ins mX5_sheet 84 86 2 (.istore 4) := ⟨by decide +kernel, rfl⟩
theorem iX5_sheet_86 : Ins mX5_sheet 86 88 2 (.iload 4) := ⟨by decide +kernel, rfl⟩
theorem iX5_sheet_88 : Ins mX5_sheet 88 90 2 (.bipush 40) := ⟨by decide +kernel, rfl⟩
theorem iX5_sheet_90 : InB mX5_sheet 90 93 112 (.if_icmp .ge) := ⟨by decide +kernel, rfl⟩
theorem iX5_sheet_93 : Ins mX5_sheet 93 94 1 (.aload_n 0) := ⟨by decide +kernel, rfl⟩
theorem iX5_sheet_94 : Ins mX5_sheet 94 97 3 (.getfield 54) := ⟨by decide +kernel, rfl⟩
theorem iX5_sheet_97 : Ins mX5_sheet 97 99 2 (.bipush 40) := ⟨by decide +kernel, rfl⟩
theorem iX5_sheet_99 : Ins mX5_sheet 99 100 1 (.iload_n 1) := ⟨by decide +kernel, rfl⟩
theorem iX5_sheet_100 : Ins mX5_sheet 100 101 1 (.imul) := ⟨by decide +kernel, rfl⟩
theorem iX5_sheet_101 : Ins mX5_sheet 101 103 2 (.iload 4) := ⟨by decide +kernel, rfl⟩
theorem iX5_sheet_103 : Ins mX5_sheet 103 104 1 (.iadd) := ⟨by decide +kernel, rfl⟩
theorem iX5_sheet_104 : Ins mX5_sheet 104 105 1 (.iconst 0) := ⟨by decide +kernel, rfl⟩
theorem iX5_sheet_105 : Ins mX5_sheet 105 106 1 (.iastore) := ⟨by decide +kernel, rfl⟩
theorem iX5_sheet_106 : Ins mX5_sheet 106 109 3 (.iinc 4 1) := ⟨by decide +kernel, rfl⟩
theorem iX5_sheet_109 : InB mX5_sheet 109 112 86 .goto := ⟨by decide +kernel, rfl⟩
theorem iX5_sheet_112 : Ins mX5_sheet 112 113 1 (.aload_n 0) := ⟨by decide +kernel, rfl⟩
theorem iX5_sheet_113 : Ins mX5_sheet 113 116 3 (.getfield 51) := ⟨by decide +kernel, rfl⟩
theorem iX5_sheet_116 : Ins mX5_sheet 116 117 1 (.iload_n 1) := ⟨by decide +kernel, rfl⟩
theorem iX5_sheet_117 : Ins mX5_sheet 117 118 1 (.iaload) := ⟨by decide +kernel, rfl⟩
theorem iX5_sheet_118 : Ins mX5_sheet 118 119 1 (.ireturn) := ⟨by decide +kernel, rfl⟩
theorem iX5_write_0 : Ins mX5_write 0 1 1 (.iload_n 1) := ⟨by decide +kernel, rfl⟩
theorem iX5_write_1 : Ins mX5_write 1 4 3 (.invokestatic 232) := ⟨by decide +kernel, rfl⟩
theorem iX5_write_4 : InB mX5_write 4 7 14 (.ifCond .ne) := ⟨by decide +kernel, rfl⟩
theorem iX5_write_7 : Ins mX5_write 7 8 1 (.aload_n 0) := ⟨by decide +kernel, rfl⟩
theorem iX5_write_8 : Ins mX5_write 8 10 2 (.ldc 60) := ⟨by decide +kernel, rfl⟩
theorem iX5_write_10 : Ins mX5_write 10 13 3 (.invokevirtual 66) := ⟨by decide +kernel, rfl⟩
theorem iX5_write_13 : Ins mX5_write 13 14 1 (.ireturn) := ⟨by decide +kernel, rfl⟩
theorem iX5_write_14 : Ins mX5_write 14 15 1 (.aload_n 0) := ⟨by decide +kernel, rfl⟩
theorem iX5_write_15 : Ins mX5_write 15 18 3 (.getfield 48) := ⟨by decide +kernel, rfl⟩
theorem iX5_write_18 : Ins mX5_write 18 19 1 (.iload_n 1) := ⟨by decide +kernel, rfl⟩
theorem iX5_write_19 : Ins mX5_write 19 20 1 (.iaload) := ⟨by decide +kernel, rfl⟩
theorem iX5_write_20 : InB mX5_write 20 23 30 (.ifCond .ne) := ⟨by decide +kernel, rfl⟩
theorem iX5_write_23 : Ins mX5_write 23 24 1 (.aload_n 0) := ⟨by decide +kernel, rfl⟩
theorem iX5_write_24 : Ins mX5_write 24 26 2 (.ldc 235) := ⟨by decide +kernel, rfl⟩
theorem iX5_write_26 : Ins mX5_write 26 29 3 (.invokevirtual 66) := ⟨by decide +kernel, rfl⟩
theorem iX5_write_29 : Ins mX5_write 29 30 1 (.ireturn) := ⟨by decide +kernel, rfl⟩
theorem iX5_write_30 : Ins mX5_write 30 31 1 (.iload_n 2) := ⟨by decide +kernel, rfl⟩
theorem iX5_write_31 : Ins mX5_write 31 32 1 (.iconst 0) := ⟨by decide +kernel, rfl⟩
theorem iX5_write_32 : Ins mX5_write 32 33 1 (.aload_n 0) := ⟨by decide +kernel, rfl⟩
theorem iX5_write_33 : Ins mX5_write 33 36 3 (.getfield 51) := ⟨by decide +kernel, rfl⟩
theorem iX5_write_36 : Ins mX5_write 36 37 1 (.iload_n 1) := ⟨by decide +kernel, rfl⟩
theorem iX5_write_37 : Ins mX5_write 37 38 1 (.iaload) := ⟨by decide +kernel, rfl⟩
theorem iX5_write_38 : Ins mX5_write 38 39 1 (.iconst 1) := ⟨by decide +kernel, rfl⟩
theorem iX5_write_39 : Ins mX5_write 39 40 1 (.isub) := ⟨by decide +kernel, rfl⟩
theorem iX5_write_40 : Ins mX5_write 40 43 3 (.invokestatic 70) := ⟨by decide +kernel, rfl⟩
theorem iX5_write_43 : InB mX5_write 43 46 53 (.ifCond .ne) := ⟨by decide +kernel, rfl⟩
theorem iX5_write_46 : Ins mX5_write 46 47 1 (.aload_n 0) := ⟨by decide +kernel, rfl⟩
theorem iX5_write_47 : Ins mX5_write 47 49 2 (.ldc 60) := ⟨by decide +kernel, rfl⟩
theorem iX5_write_49 : Ins mX5_write 49 52 3 (.invokevirtual 66) := ⟨by decide +kernel, rfl⟩
theorem iX5_write_52 : Ins mX5_write 52 53 1 (.ireturn) := ⟨by decide +kernel, rfl⟩
theorem iX5_write_53 : Ins mX5_write 53 54 1 (.aload_n 0) := ⟨by decide +kernel, rfl⟩
theorem iX5_write_54 : Ins mX5_write 54 57 3 (.getfield 54) := ⟨by decide +kernel, rfl⟩
theorem iX5_write_57 : Ins mX5_write 57 59 2 (.bipush 40) := ⟨by decide +kernel, rfl⟩
theorem iX5_write_59 : Ins mX5_write 59 60 1 (.iload_n 1) := ⟨by decide +kernel, rfl⟩
theorem iX5_write_60 : Ins mX5_write 60 61 1 (.imul) := ⟨by decide +kernel, rfl⟩
theorem iX5_write_61 : Ins mX5_write 61 62 1 (.iload_n 2) := ⟨by decide +kernel, rfl⟩
theorem iX5_write_62 : Ins mX5_write 62 63 1 (.iadd) := ⟨by decide +kernel, rfl⟩
theorem iX5_write_63 : Ins mX5_write 63 64 1 (.iload_n 3) := ⟨by decide +kernel, rfl⟩
theorem iX5_write_64 : Ins mX5_write 64 65 1 (.aload_n 0) := ⟨by decide +kernel, rfl⟩
theorem iX5_write_65 : Ins mX5_write 65 68 3 (.getfield 48) := ⟨by decide +kernel, rfl⟩
theorem iX5_write_68 : Ins mX5_write 68 69 1 (.iload_n 1) := ⟨by decide +kernel, rfl⟩
theorem iX5_write_69 : Ins mX5_write 69 70 1 (.iaload) := ⟨by decide +kernel, rfl⟩
theorem iX5_write_70 : Ins mX5_write 70 73 3 (.invokestatic 335) := ⟨by decide +kernel, rfl⟩
theorem iX5_write_73 : Ins mX5_write 73 74 1 (.iastore) := ⟨by decide +kernel, rfl⟩
theorem iX5_write_74 : Ins mX5_write 74 75 1 (.iconst 1) := ⟨by decide +kernel, rfl⟩
theorem iX5_write_75 : Ins mX5_write 75 76 1 (.ireturn) := ⟨by decide +kernel, rfl⟩
theorem iX5_copy_0 : Ins mX5_copy 0 1 1 (.iload_n 1) := ⟨by decide +kernel, rfl⟩
theorem iX5_copy_1 : Ins mX5_copy 1 4 3 (.invokestatic 232) := ⟨by decide +kernel, rfl⟩
theorem iX5_copy_4 : InB mX5_copy 4 7 14 (.ifCond .eq) := ⟨by decide +kernel, rfl⟩
theorem iX5_copy_7 : Ins mX5_copy 7 8 1 (.iload_n 3) := ⟨by decide +kernel, rfl⟩
theorem iX5_copy_8 : Ins mX5_copy 8 11 3 (.invokestatic 232) := ⟨by decide +kernel, rfl⟩
theorem iX5_copy_11 : InB mX5_copy 11 14 21 (.ifCond .ne) := ⟨by decide +kernel, rfl⟩
theorem iX5_copy_14 : Ins mX5_copy 14 15 1 (.aload_n 0) := ⟨by decide +kernel, rfl⟩
theorem iX5_copy_15 : Ins mX5_copy 15 17 2 (.ldc 60) := ⟨by decide +kernel, rfl⟩
theorem iX5_copy_17 : Ins mX5_copy 17 20 3 (.invokevirtual 66) := ⟨by decide +kernel, rfl⟩
theorem iX5_copy_20 : Ins mX5_copy 20 21 1 (.ireturn) := ⟨by decide +kernel, rfl⟩
theorem iX5_copy_21 : Ins mX5_copy 21 22 1 (.aload_n 0) := ⟨by decide +kernel, rfl⟩
theorem iX5_copy_22 : Ins mX5_copy 22 25 3 (.getfield 48) := ⟨by decide +kernel, rfl⟩
theorem iX5_copy_25 : Ins mX5_copy 25 26 1 (.iload_n 1) := ⟨by decide +kernel, rfl⟩
theorem iX5_copy_26 : Ins mX5_copy 26 27 1 (.iaload) := ⟨by decide +kernel, rfl⟩
theorem iX5_copy_27 : InB mX5_copy 27 30 39 (.ifCond .eq) := ⟨by decide +kernel, rfl⟩
theorem iX5_copy_30 : Ins mX5_copy 30 31 1 (.aload_n 0) := ⟨by decide +kernel, rfl⟩
theorem iX5_copy_31 : Ins mX5_copy 31 34 3 (.getfield 48) := ⟨by decide +kernel, rfl⟩
theorem iX5_copy_34 : Ins mX5_copy 34 35 1 (.iload_n 3) := ⟨by decide +kernel, rfl⟩
theorem iX5_copy_35 : Ins mX5_copy 35 36 1 (.iaload) := ⟨by decide +kernel, rfl⟩
theorem iX5_copy_36 : InB mX5_copy 36 39 46 (.ifCond .ne) := ⟨by decide +kernel, rfl⟩
theorem iX5_copy_39 : Ins mX5_copy 39 40 1 (.aload_n 0) := ⟨by decide +kernel, rfl⟩
theorem iX5_copy_40 : Ins mX5_copy 40 42 2 (.ldc 235) := ⟨by decide +kernel, rfl⟩
theorem iX5_copy_42 : Ins mX5_copy 42 45 3 (.invokevirtual 66) := ⟨by decide +kernel, rfl⟩
theorem iX5_copy_45 : Ins mX5_copy 45 46 1 (.ireturn) := ⟨by decide +kernel, rfl⟩
theorem iX5_copy_46 : Ins mX5_copy 46 47 1 (.aload_n 0) := ⟨by decide +kernel, rfl⟩
theorem iX5_copy_47 : Ins mX5_copy 47 50 3 (.getfield 48) := ⟨by decide +kernel, rfl⟩
theorem iX5_copy_50 : Ins mX5_copy 50 51 1 (.iload_n 1) := ⟨by decide +kernel, rfl⟩
theorem iX5_copy_51 : Ins mX5_copy 51 52 1 (.iaload) := ⟨by decide +kernel, rfl⟩
theorem iX5_copy_52 : Ins mX5_copy 52 53 1 (.aload_n 0) := ⟨by decide +kernel, rfl⟩
theorem iX5_copy_53 : Ins mX5_copy 53 56 3 (.getfield 48) := ⟨by decide +kernel, rfl⟩
theorem iX5_copy_56 : Ins mX5_copy 56 57 1 (.iload_n 3) := ⟨by decide +kernel, rfl⟩
theorem iX5_copy_57 : Ins mX5_copy 57 58 1 (.iaload) := ⟨by decide +kernel, rfl⟩
theorem iX5_copy_58 : InB mX5_copy 58 61 69 (.if_icmp .eq) := ⟨by decide +kernel, rfl⟩
theorem iX5_copy_61 : Ins mX5_copy 61 62 1 (.aload_n 0) := ⟨by decide +kernel, rfl⟩
theorem iX5_copy_62 : Ins mX5_copy 62 65 3 (.ldc_w 333) := ⟨by decide +kernel, rfl⟩
theorem iX5_copy_65 : Ins mX5_copy 65 68 3 (.invokevirtual 66) := ⟨by decide +kernel, rfl⟩
theorem iX5_copy_68 : Ins mX5_copy 68 69 1 (.ireturn) := ⟨by decide +kernel, rfl⟩
theorem iX5_copy_69 : Ins mX5_copy 69 70 1 (.iload_n 2) := ⟨by decide +kernel, rfl⟩
theorem iX5_copy_70 : InB mX5_copy 70 73 118 (.ifCond .lt) := ⟨by decide +kernel, rfl⟩
theorem iX5_copy_73 : Ins mX5_copy 73 75 2 (.iload 4) := ⟨by decide +kernel, rfl⟩
theorem iX5_copy_75 : InB mX5_copy 75 78 118 (.ifCond .lt) := ⟨by decide +kernel, rfl⟩
theorem iX5_copy_78 : Ins mX5_copy 78 80 2 (.iload 5) := ⟨by decide +kernel, rfl⟩
theorem iX5_copy_80 : InB mX5_copy 80 83 118 (.ifCond .lt) := ⟨by decide +kernel, rfl⟩
theorem iX5_copy_83 : Ins mX5_copy 83 84 1 (.iload_n 2) := ⟨by decide +kernel, rfl⟩
theorem iX5_copy_84 : Ins mX5_copy 84 85 1 (.i2l) := ⟨by decide +kernel, rfl⟩
theorem iX5_copy_85 : Ins mX5_copy 85 87 2 (.iload 5) := ⟨by decide +kernel, rfl⟩
theorem iX5_copy_87 : Ins mX5_copy 87 88 1 (.i2l) := ⟨by decide +kernel, rfl⟩
theorem iX5_copy_88 : Ins mX5_copy 88 89 1 (.ladd) := ⟨by decide +kernel, rfl⟩
theorem iX5_copy_89 : Ins mX5_copy 89 90 1 (.aload_n 0) := ⟨by decide +kernel, rfl⟩
theorem iX5_copy_90 : Ins mX5_copy 90 93 3 (.getfield 51) := ⟨by decide +kernel, rfl⟩
theorem iX5_copy_93 : Ins mX5_copy 93 94 1 (.iload_n 1) := ⟨by decide +kernel, rfl⟩
theorem iX5_copy_94 : Ins mX5_copy 94 95 1 (.iaload) := ⟨by decide +kernel, rfl⟩
theorem iX5_copy_95 : Ins mX5_copy 95 96 1 (.i2l) := ⟨by decide +kernel, rfl⟩
theorem iX5_copy_96 : Ins mX5_copy 96 97 1 (.lcmp) := ⟨by decide +kernel, rfl⟩
theorem iX5_copy_97 : InB mX5_copy 97 100 118 (.ifCond .gt) := ⟨by decide +kernel, rfl⟩
theorem iX5_copy_100 : Ins mX5_copy 100 102 2 (.iload 4) := ⟨by decide +kernel, rfl⟩
theorem iX5_copy_102 : Ins mX5_copy 102 103 1 (.i2l) := ⟨by decide +kernel, rfl⟩
theorem iX5_copy_103 : Ins mX5_copy 103 105 2 (.iload 5) := ⟨by decide +kernel, rfl⟩
theorem iX5_copy_105 : Ins mX5_copy 105 106 1 (.i2l) := ⟨by decide +kernel, rfl⟩
theorem iX5_copy_106 : Ins mX5_copy 106 107 1 (.ladd) := ⟨by decide +kernel, rfl⟩
theorem iX5_copy_107 : Ins mX5_copy 107 108 1 (.aload_n 0) := ⟨by decide +kernel, rfl⟩
theorem iX5_copy_108 : Ins mX5_copy 108 111 3 (.getfield 51) := ⟨by decide +kernel, rfl⟩
theorem iX5_copy_111 : Ins mX5_copy 111 112 1 (.iload_n 3) := ⟨by decide +kernel, rfl⟩
theorem iX5_copy_112 : Ins mX5_copy 112 113 1 (.iaload) := ⟨by decide +kernel, rfl⟩
theorem iX5_copy_113 : Ins mX5_copy 113 114 1 (.i2l) := ⟨by decide +kernel, rfl⟩
theorem iX5_copy_114 : Ins mX5_copy 114 115 1 (.lcmp) := ⟨by decide +kernel, rfl⟩
theorem iX5_copy_115 : InB mX5_copy 115 118 125 (.ifCond .le) := ⟨by decide +kernel, rfl⟩
theorem iX5_copy_118 : Ins mX5_copy 118 119 1 (.aload_n 0) := ⟨by decide +kernel, rfl⟩
theorem iX5_copy_119 : Ins mX5_copy 119 121 2 (.ldc 60) := ⟨by decide +kernel, rfl⟩
theorem iX5_copy_121 : Ins mX5_copy 121 124 3 (.invokevirtual 66) := ⟨by decide +kernel, rfl⟩
theorem iX5_copy_124 : Ins mX5_copy 124 125 1 (.ireturn) := ⟨by decide +kernel, rfl⟩
theorem iX5_copy_125 : Ins mX5_copy 125 126 1 (.iconst 0) := ⟨by decide +kernel, rfl⟩
theorem iX5_copy_126 : Ins mX5_copy 126 128 2 (.istore 6) := ⟨by decide +kernel, rfl⟩
theorem iX5_copy_128 : Ins mX5_copy 128 130 2 (.iload 6) := ⟨by decide +kernel, rfl⟩
theorem iX5_copy_130 : Ins mX5_copy 130 132 2 (.iload 5) := ⟨by decide +kernel, rfl⟩
theorem iX5_copy_132 : InB mX5_copy 132 135 162 (.if_icmp .ge) := ⟨by decide +kernel, rfl⟩
theorem iX5_copy_135 : Ins mX5_copy 135 136 1 (.aload_n 0) := ⟨by decide +kernel, rfl⟩
theorem iX5_copy_136 : Ins mX5_copy 136 139 3 (.getfield 57) := ⟨by decide +kernel, rfl⟩
theorem iX5_copy_139 : Ins mX5_copy 139 141 2 (.iload 6) := ⟨by decide +kernel, rfl⟩
theorem iX5_copy_141 : Ins mX5_copy 141 142 1 (.aload_n 0) := ⟨by decide +kernel, rfl⟩
theorem iX5_copy_142 : Ins mX5_copy 142 145 3 (.getfield 54) := ⟨by decide +kernel, rfl⟩
theorem iX5_copy_145 : Ins mX5_copy 145 147 2 (.bipush 40) := ⟨by decide +kernel, rfl⟩
theorem iX5_copy_147 : Ins mX5_copy 147 148 1 (.iload_n 1) := ⟨by decide +kernel, rfl⟩
theorem iX5_copy_148 : Ins mX5_copy 148 149 1 (.imul) := ⟨by decide +kernel, rfl⟩
theorem iX5_copy_149 : Ins mX5_copy 149 150 1 (.iload_n 2) := ⟨by decide +kernel, rfl⟩
theorem iX5_copy_150 : Ins mX5_copy 150 151 1 (.iadd) := ⟨by decide +kernel, rfl⟩
theorem iX5_copy_151 : Ins mX5_copy 151 153 2 (.iload 6) := ⟨by decide +kernel, rfl⟩
theorem iX5_copy_153 : Ins mX5_copy 153 154 1 (.iadd) := ⟨by decide +kernel, rfl⟩
theorem iX5_copy_154 : Ins mX5_copy 154 155 1 (.iaload) := ⟨by decide +kernel, rfl⟩
theorem iX5_copy_155 : Ins mX5_copy 155 156 1 (.iastore) := ⟨by decide +kernel, rfl⟩
theorem iX5_copy_156 : Ins mX5_copy 156 159 3 (.iinc 6 1) := ⟨by decide +kernel, rfl⟩
theorem iX5_copy_159 : InB mX5_copy 159 162 128 .goto := ⟨by decide +kernel, rfl⟩
theorem iX5_copy_162 : Ins mX5_copy 162 163 1 (.iconst 0) := ⟨by decide +kernel, rfl⟩
theorem iX5_copy_163 : Ins mX5_copy 163 165 2 (.istore 6) := ⟨by decide +kernel, rfl⟩
theorem iX5_copy_165 : Ins mX5_copy 165 167 2 (.iload 6) := ⟨by decide +kernel, rfl⟩
theorem iX5_copy_167 : Ins mX5_copy 167 169 2 (.iload 5) := ⟨by decide +kernel, rfl⟩
theorem iX5_copy_169 : InB mX5_copy 169 172 200 (.if_icmp .ge) := ⟨by decide +kernel, rfl⟩
theorem iX5_copy_172 : Ins mX5_copy 172 173 1 (.aload_n 0) := ⟨by decide +kernel, rfl⟩
theorem iX5_copy_173 : Ins mX5_copy 173 176 3 (.getfield 54) := ⟨by decide +kernel, rfl⟩
theorem iX5_copy_176 : Ins mX5_copy 176 178 2 (.bipush 40) := ⟨by decide +kernel, rfl⟩
theorem iX5_copy_178 : Ins mX5_copy 178 179 1 (.iload_n 3) := ⟨by decide +kernel, rfl⟩
theorem iX5_copy_179 : Ins mX5_copy 179 180 1 (.imul) := ⟨by decide +kernel, rfl⟩
theorem iX5_copy_180 : Ins mX5_copy 180 182 2 (.iload 4) := ⟨by decide +kernel, rfl⟩
theorem iX5_copy_182 : Ins mX5_copy 182 183 1 (.iadd) := ⟨by decide +kernel, rfl⟩
theorem iX5_copy_183 : Ins mX5_copy 183 185 2 (.iload 6) := ⟨by decide +kernel, rfl⟩
theorem iX5_copy_185 : Ins mX5_copy 185 186 1 (.iadd) := ⟨by decide +kernel, rfl⟩
theorem iX5_copy_186 : Ins mX5_copy 186 187 1 (.aload_n 0) := ⟨by decide +kernel, rfl⟩
theorem iX5_copy_187 : Ins mX5_copy 187 190 3 (.getfield 57) := ⟨by decide +kernel, rfl⟩
theorem iX5_copy_190 : Ins mX5_copy 190 192 2 (.iload 6) := ⟨by decide +kernel, rfl⟩
theorem iX5_copy_192 : Ins mX5_copy 192 193 1 (.iaload) := ⟨by decide +kernel, rfl⟩
theorem iX5_copy_193 : Ins mX5_copy 193 194 1 (.iastore) := ⟨by decide +kernel, rfl⟩
theorem iX5_copy_194 : Ins mX5_copy 194 197 3 (.iinc 6 1) := ⟨by decide +kernel, rfl⟩
theorem iX5_copy_197 : InB mX5_copy 197 200 165 .goto := ⟨by decide +kernel, rfl⟩
theorem iX5_copy_200 : Ins mX5_copy 200 202 2 (.iload 5) := ⟨by decide +kernel, rfl⟩
theorem iX5_copy_202 : Ins mX5_copy 202 203 1 (.ireturn) := ⟨by decide +kernel, rfl⟩
theorem iX5_above_0 : Ins mX5_above 0 1 1 (.iload_n 0) := ⟨by decide +kernel, rfl⟩
theorem iX5_above_1 : InB mX5_above 1 4 8 (.ifCond .ne) := ⟨by decide +kernel, rfl⟩
theorem iX5_above_4 : Ins mX5_above 4 5 1 (.iconst (-1)) := ⟨by decide +kernel, rfl⟩
theorem iX5_above_5 : InB mX5_above 5 8 37 .goto := ⟨by decide +kernel, rfl⟩
theorem iX5_above_8 : Ins mX5_above 8 9 1 (.iload_n 0) := ⟨by decide +kernel, rfl⟩
theorem iX5_above_9 : Ins mX5_above 9 10 1 (.iconst 3) := ⟨by decide +kernel, rfl⟩
theorem iX5_above_10 : InB mX5_above 10 13 17 (.if_icmp .ne) := ⟨by decide +kernel, rfl⟩
theorem iX5_above_13 : Ins mX5_above 13 14 1 (.iconst 2) := ⟨by decide +kernel, rfl⟩
theorem iX5_above_14 : InB mX5_above 14 17 37 .goto := ⟨by decide +kernel, rfl⟩
theorem iX5_above_17 : Ins mX5_above 17 18 1 (.iload_n 0) := ⟨by decide +kernel, rfl⟩
theorem iX5_above_18 : Ins mX5_above 18 19 1 (.iconst 4) := ⟨by decide +kernel, rfl⟩
theorem iX5_above_19 : InB mX5_above 19 22 26 (.if_icmp .ne) := ⟨by decide +kernel, rfl⟩
theorem iX5_above_22 : Ins mX5_above 22 23 1 (.iconst 3) := ⟨by decide +kernel, rfl⟩
theorem iX5_above_23 : InB mX5_above 23 26 37 .goto := ⟨by decide +kernel, rfl⟩
theorem iX5_above_26 : Ins mX5_above 26 27 1 (.iload_n 0) := ⟨by decide +kernel, rfl⟩
theorem iX5_above_27 : Ins mX5_above 27 29 2 (.bipush 6) := ⟨by decide +kernel, rfl⟩
theorem iX5_above_29 : InB mX5_above 29 32 36 (.if_icmp .ne) := ⟨by decide +kernel, rfl⟩
theorem iX5_above_32 : Ins mX5_above 32 33 1 (.iconst 1) := ⟨by decide +kernel, rfl⟩
theorem iX5_above_33 : InB mX5_above 33 36 37 .goto := ⟨by decide +kernel, rfl⟩
theorem iX5_above_36 : Ins mX5_above 36 37 1 (.iconst 0) := ⟨by decide +kernel, rfl⟩
theorem iX5_above_37 : Ins mX5_above 37 38 1 (.ireturn) := ⟨by decide +kernel, rfl⟩
theorem iX5_isUnder_0 : Ins mX5_isUnder 0 1 1 (.iload_n 0) := ⟨by decide +kernel, rfl⟩
theorem iX5_isUnder_1 : Ins mX5_isUnder 1 2 1 (.istore_n 2) := ⟨by decide +kernel, rfl⟩
theorem iX5_isUnder_2 : Ins mX5_isUnder 2 3 1 (.iload_n 2) := ⟨by decide +kernel, rfl⟩
theorem iX5_isUnder_3 : InB mX5_isUnder 3 6 19 (.ifCond .lt) := ⟨by decide +kernel, rfl⟩
theorem iX5_isUnder_6 : Ins mX5_isUnder 6 7 1 (.iload_n 2) := ⟨by decide +kernel, rfl⟩
theorem iX5_isUnder_7 : Ins mX5_isUnder 7 8 1 (.iload_n 1) := ⟨by decide +kernel, rfl⟩
theorem iX5_isUnder_8 : InB mX5_isUnder 8 11 19 (.if_icmp .eq) := ⟨by decide +kernel, rfl⟩
theorem iX5_isUnder_11 : Ins mX5_isUnder 11 12 1 (.iload_n 2) := ⟨by decide +kernel, rfl⟩
theorem iX5_isUnder_12 : Ins mX5_isUnder 12 15 3 (.invokestatic 338) := ⟨by decide +kernel, rfl⟩
theorem iX5_isUnder_15 : Ins mX5_isUnder 15 16 1 (.istore_n 2) := ⟨by decide +kernel, rfl⟩
theorem iX5_isUnder_16 : InB mX5_isUnder 16 19 2 .goto := ⟨by decide +kernel, rfl⟩
theorem iX5_isUnder_19 : Ins mX5_isUnder 19 20 1 (.iload_n 2) := ⟨by decide +kernel, rfl⟩
theorem iX5_isUnder_20 : InB mX5_isUnder 20 23 27 (.ifCond .lt) := ⟨by decide +kernel, rfl⟩
theorem iX5_isUnder_23 : Ins mX5_isUnder 23 24 1 (.iconst 1) := ⟨by decide +kernel, rfl⟩
theorem iX5_isUnder_24 : InB mX5_isUnder 24 27 28 .goto := ⟨by decide +kernel, rfl⟩
theorem iX5_isUnder_27 : Ins mX5_isUnder 27 28 1 (.iconst 0) := ⟨by decide +kernel, rfl⟩
theorem iX5_isUnder_28 : Ins mX5_isUnder 28 29 1 (.ireturn) := ⟨by decide +kernel, rfl⟩
theorem iX5_load_0 : Ins mX5_load 0 1 1 (.aload_n 0) := ⟨by decide +kernel, rfl⟩
theorem iX5_load_1 : Ins mX5_load 1 2 1 (.iload_n 1) := ⟨by decide +kernel, rfl⟩
theorem iX5_load_2 : Ins mX5_load 2 3 1 (.iconst 1) := ⟨by decide +kernel, rfl⟩
theorem iX5_load_3 : Ins mX5_load 3 6 3 (.invokevirtual 236) := ⟨by decide +kernel, rfl⟩
theorem iX5_load_6 : InB mX5_load 6 9 20 (.ifCond .eq) := ⟨by decide +kernel, rfl⟩
theorem iX5_load_9 : Ins mX5_load 9 10 1 (.aload_n 0) := ⟨by decide +kernel, rfl⟩
theorem iX5_load_10 : Ins mX5_load 10 11 1 (.aload_n 0) := ⟨by decide +kernel, rfl⟩
theorem iX5_load_11 : Ins mX5_load 11 12 1 (.iload_n 1) := ⟨by decide +kernel, rfl⟩
theorem iX5_load_12 : Ins mX5_load 12 13 1 (.iconst 1) := ⟨by decide +kernel, rfl⟩
theorem iX5_load_13 : Ins mX5_load 13 16 3 (.invokevirtual 236) := ⟨by decide +kernel, rfl⟩
theorem iX5_load_16 : Ins mX5_load 16 19 3 (.invokevirtual 66) := ⟨by decide +kernel, rfl⟩
theorem iX5_load_19 : Ins mX5_load 19 20 1 (.ireturn) := ⟨by decide +kernel, rfl⟩
theorem iX5_load_20 : Ins mX5_load 20 21 1 (.iconst 0) := ⟨by decide +kernel, rfl⟩
theorem iX5_load_21 : Ins mX5_load 21 22 1 (.istore_n 2) := ⟨by decide +kernel, rfl⟩
theorem iX5_load_22 : Ins mX5_load 22 23 1 (.iload_n 2) := ⟨by decide +kernel, rfl⟩
theorem iX5_load_23 : Ins mX5_load 23 24 1 (.aload_n 0) := ⟨by decide +kernel, rfl⟩
theorem iX5_load_24 : Ins mX5_load 24 27 3 (.getfield 51) := ⟨by decide +kernel, rfl⟩
theorem iX5_load_27 : Ins mX5_load 27 28 1 (.iload_n 1) := ⟨by decide +kernel, rfl⟩
theorem iX5_load_28 : Ins mX5_load 28 29 1 (.iaload) := ⟨by decide +kernel, rfl⟩
theorem iX5_load_29 : InB mX5_load 29 32 84 (.if_icmp .ge) := ⟨by decide +kernel, rfl⟩
theorem iX5_load_32 : Ins mX5_load 32 33 1 (.aload_n 0) := ⟨by decide +kernel, rfl⟩
theorem iX5_load_33 : Ins mX5_load 33 34 1 (.iload_n 2) := ⟨by decide +kernel, rfl⟩
theorem iX5_load_34 : Ins mX5_load 34 37 3 (.invokevirtual 105) := ⟨by decide +kernel, rfl⟩
theorem iX5_load_37 : InB mX5_load 37 40 84 (.ifCond .eq) := ⟨by decide +kernel, rfl⟩
theorem iX5_load_40 : Ins mX5_load 40 41 1 (.aload_n 0) := ⟨by decide +kernel, rfl⟩
theorem iX5_load_41 : Ins mX5_load 41 44 3 (.getfield 54) := ⟨by decide +kernel, rfl⟩
theorem iX5_load_44 : Ins mX5_load 44 46 2 (.bipush 40) := ⟨by decide +kernel, rfl⟩
theorem iX5_load_46 : Ins mX5_load 46 47 1 (.iload_n 1) := ⟨by decide +kernel, rfl⟩
theorem iX5_load_47 : Ins mX5_load 47 48 1 (.imul) := ⟨by decide +kernel, rfl⟩
theorem iX5_load_48 : Ins mX5_load 48 49 1 (.iload_n 2) := ⟨by decide +kernel, rfl⟩
theorem iX5_load_49 : Ins mX5_load 49 50 1 (.iadd) := ⟨by decide +kernel, rfl⟩
theorem iX5_load_50 : Ins mX5_load 50 51 1 (.iaload) := ⟨by decide +kernel, rfl⟩
theorem iX5_load_51 : Ins mX5_load 51 54 3 (.invokestatic 94) := ⟨by decide +kernel, rfl⟩
theorem iX5_load_54 : InB mX5_load 54 57 84 (.ifCond .eq) := ⟨by decide +kernel, rfl⟩
theorem iX5_load_57 : Ins mX5_load 57 58 1 (.aload_n 0) := ⟨by decide +kernel, rfl⟩
theorem iX5_load_58 : Ins mX5_load 58 61 3 (.getfield 9) := ⟨by decide +kernel, rfl⟩
theorem iX5_load_61 : Ins mX5_load 61 62 1 (.iload_n 2) := ⟨by decide +kernel, rfl⟩
theorem iX5_load_62 : Ins mX5_load 62 63 1 (.iconst 1) := ⟨by decide +kernel, rfl⟩
theorem iX5_load_63 : Ins mX5_load 63 66 3 (.invokestatic 85) := ⟨by decide +kernel, rfl⟩
theorem iX5_load_66 : Ins mX5_load 66 67 1 (.aload_n 0) := ⟨by decide +kernel, rfl⟩
theorem iX5_load_67 : Ins mX5_load 67 70 3 (.getfield 54) := ⟨by decide +kernel, rfl⟩
theorem iX5_load_70 : Ins mX5_load 70 72 2 (.bipush 40) := ⟨by decide +kernel, rfl⟩
theorem iX5_load_72 : Ins mX5_load 72 73 1 (.iload_n 1) := ⟨by decide +kernel, rfl⟩
theorem iX5_load_73 : Ins mX5_load 73 74 1 (.imul) := ⟨by decide +kernel, rfl⟩
theorem iX5_load_74 : Ins mX5_load 74 75 1 (.iload_n 2) := ⟨by decide +kernel, rfl⟩
theorem iX5_load_75 : Ins mX5_load 75 76 1 (.iadd) := ⟨by decide +kernel, rfl⟩
theorem iX5_load_76 : Ins mX5_load 76 77 1 (.iaload) := ⟨by decide +kernel, rfl⟩
theorem iX5_load_77 : Ins mX5_load 77 78 1 (.iastore) := ⟨by decide +kernel, rfl⟩
theorem iX5_load_78 : Ins mX5_load 78 81 3 (.iinc 2 1) := ⟨by decide +kernel, rfl⟩
theorem iX5_load_81 : InB mX5_load 81 84 22 .goto := ⟨by decide +kernel, rfl⟩
theorem iX5_load_84 : Ins mX5_load 84 85 1 (.iload_n 2) := ⟨by decide +kernel, rfl⟩
theorem iX5_load_85 : Ins mX5_load 85 86 1 (.ireturn) := ⟨by decide +kernel, rfl⟩
theorem iX5_judge_0 : Ins mX5_judge 0 1 1 (.aload_n 0) := ⟨by decide +kernel, rfl⟩
theorem iX5_judge_1 : Ins mX5_judge 1 2 1 (.iload_n 1) := ⟨by decide +kernel, rfl⟩
theorem iX5_judge_2 : Ins mX5_judge 2 3 1 (.iconst 1) := ⟨by decide +kernel, rfl⟩
theorem iX5_judge_3 : Ins mX5_judge 3 6 3 (.invokevirtual 236) := ⟨by decide +kernel, rfl⟩
theorem iX5_judge_6 : InB mX5_judge 6 9 20 (.ifCond .eq) := ⟨by decide +kernel, rfl⟩
theorem iX5_judge_9 : Ins mX5_judge 9 10 1 (.aload_n 0) := ⟨by decide +kernel, rfl⟩
theorem iX5_judge_10 : Ins mX5_judge 10 11 1 (.aload_n 0) := ⟨by decide +kernel, rfl⟩
theorem iX5_judge_11 : Ins mX5_judge 11 12 1 (.iload_n 1) := ⟨by decide +kernel, rfl⟩
theorem iX5_judge_12 : Ins mX5_judge 12 13 1 (.iconst 1) := ⟨by decide +kernel, rfl⟩
theorem iX5_judge_13 : Ins mX5_judge 13 16 3 (.invokevirtual 236) := ⟨by decide +kernel, rfl⟩
theorem iX5_judge_16 : Ins mX5_judge 16 19 3 (.invokevirtual 66) := ⟨by decide +kernel, rfl⟩
theorem iX5_judge_19 : Ins mX5_judge 19 20 1 (.ireturn) := ⟨by decide +kernel, rfl⟩
theorem iX5_judge_20 : Ins mX5_judge 20 21 1 (.iconst 0) := ⟨by decide +kernel, rfl⟩
theorem iX5_judge_21 : Ins mX5_judge 21 22 1 (.istore_n 2) := ⟨by decide +kernel, rfl⟩
theorem iX5_judge_22 : Ins mX5_judge 22 23 1 (.iload_n 2) := ⟨by decide +kernel, rfl⟩
theorem iX5_judge_23 : Ins mX5_judge 23 24 1 (.aload_n 0) := ⟨by decide +kernel, rfl⟩
theorem iX5_judge_24 : Ins mX5_judge 24 27 3 (.getfield 51) := ⟨by decide +kernel, rfl⟩
theorem iX5_judge_27 : Ins mX5_judge 27 28 1 (.iload_n 1) := ⟨by decide +kernel, rfl⟩
theorem iX5_judge_28 : Ins mX5_judge 28 29 1 (.iaload) := ⟨by decide +kernel, rfl⟩
theorem iX5_judge_29 : InB mX5_judge 29 32 66 (.if_icmp .ge) := ⟨by decide +kernel, rfl⟩
theorem iX5_judge_32 : Ins mX5_judge 32 33 1 (.aload_n 0) := ⟨by decide +kernel, rfl⟩
theorem iX5_judge_33 : Ins mX5_judge 33 34 1 (.iload_n 2) := ⟨by decide +kernel, rfl⟩
theorem iX5_judge_34 : Ins mX5_judge 34 37 3 (.invokevirtual 131) := ⟨by decide +kernel, rfl⟩
theorem iX5_judge_37 : InB mX5_judge 37 40 66 (.ifCond .eq) := ⟨by decide +kernel, rfl⟩
theorem iX5_judge_40 : Ins mX5_judge 40 41 1 (.aload_n 0) := ⟨by decide +kernel, rfl⟩
theorem iX5_judge_41 : Ins mX5_judge 41 44 3 (.getfield 54) := ⟨by decide +kernel, rfl⟩
theorem iX5_judge_44 : Ins mX5_judge 44 46 2 (.bipush 40) := ⟨by decide +kernel, rfl⟩
theorem iX5_judge_46 : Ins mX5_judge 46 47 1 (.iload_n 1) := ⟨by decide +kernel, rfl⟩
theorem iX5_judge_47 : Ins mX5_judge 47 48 1 (.imul) := ⟨by decide +kernel, rfl⟩
theorem iX5_judge_48 : Ins mX5_judge 48 49 1 (.iload_n 2) := ⟨by decide +kernel, rfl⟩
theorem iX5_judge_49 : Ins mX5_judge 49 50 1 (.iadd) := ⟨by decide +kernel, rfl⟩
theorem iX5_judge_50 : Ins mX5_judge 50 51 1 (.iaload) := ⟨by decide +kernel, rfl⟩
theorem iX5_judge_51 : Ins mX5_judge 51 52 1 (.aload_n 0) := ⟨by decide +kernel, rfl⟩
theorem iX5_judge_52 : Ins mX5_judge 52 53 1 (.iload_n 2) := ⟨by decide +kernel, rfl⟩
theorem iX5_judge_53 : Ins mX5_judge 53 54 1 (.iconst 2) := ⟨by decide +kernel, rfl⟩
theorem iX5_judge_54 : Ins mX5_judge 54 57 3 (.invokevirtual 112) := ⟨by decide +kernel, rfl⟩
theorem iX5_judge_57 : InB mX5_judge 57 60 66 (.if_icmp .ne) := ⟨by decide +kernel, rfl⟩
theorem iX5_judge_60 : Ins mX5_judge 60 63 3 (.iinc 2 1) := ⟨by decide +kernel, rfl⟩
theorem iX5_judge_63 : InB mX5_judge 63 66 22 .goto := ⟨by decide +kernel, rfl⟩
theorem iX5_judge_66 : Ins mX5_judge 66 67 1 (.iload_n 2) := ⟨by decide +kernel, rfl⟩
theorem iX5_judge_67 : Ins mX5_judge 67 68 1 (.aload_n 0) := ⟨by decide +kernel, rfl⟩
theorem iX5_judge_68 : Ins mX5_judge 68 71 3 (.getfield 51) := ⟨by decide +kernel, rfl⟩
theorem iX5_judge_71 : Ins mX5_judge 71 72 1 (.iload_n 1) := ⟨by decide +kernel, rfl⟩
theorem iX5_judge_72 : Ins mX5_judge 72 73 1 (.iaload) := ⟨by decide +kernel, rfl⟩
theorem iX5_judge_73 : InB mX5_judge 73 76 80 (.if_icmp .ne) := ⟨by decide +kernel, rfl⟩
theorem iX5_judge_76 : Ins mX5_judge 76 77 1 (.iconst 0) := ⟨by decide +kernel, rfl⟩
theorem iX5_judge_77 : InB mX5_judge 77 80 83 .goto := ⟨by decide +kernel, rfl⟩
theorem iX5_judge_80 : Ins mX5_judge 80 81 1 (.iconst 1) := ⟨by decide +kernel, rfl⟩
theorem iX5_judge_81 : Ins mX5_judge 81 82 1 (.iload_n 2) := ⟨by decide +kernel, rfl⟩
theorem iX5_judge_82 : Ins mX5_judge 82 83 1 (.iadd) := ⟨by decide +kernel, rfl⟩
theorem iX5_judge_83 : Ins mX5_judge 83 84 1 (.ireturn) := ⟨by decide +kernel, rfl⟩
theorem iX5_image_0 : Ins mX5_image 0 1 1 (.aload_n 0) := ⟨by decide +kernel, rfl⟩
theorem iX5_image_1 : Ins mX5_image 1 4 3 (.getfield 9) := ⟨by decide +kernel, rfl⟩
theorem iX5_image_4 : Ins mX5_image 4 5 1 (.aload_n 0) := ⟨by decide +kernel, rfl⟩
theorem iX5_image_5 : Ins mX5_image 5 8 3 (.getfield 13) := ⟨by decide +kernel, rfl⟩
theorem iX5_image_8 : Ins mX5_image 8 11 3 (.invokestatic 61) := ⟨by decide +kernel, rfl⟩
theorem iX5_image_11 : Ins mX5_image 11 12 1 (.aload_n 0) := ⟨by decide +kernel, rfl⟩
theorem iX5_image_12 : Ins mX5_image 12 13 1 (.iconst 1) := ⟨by decide +kernel, rfl⟩
theorem iX5_image_13 : Ins mX5_image 13 16 3 (.putfield 341) := ⟨by decide +kernel, rfl⟩
theorem iX5_image_16 : Ins mX5_image 16 17 1 (.iconst 1) := ⟨by decide +kernel, rfl⟩
theorem iX5_image_17 : Ins mX5_image 17 18 1 (.ireturn) := ⟨by decide +kernel, rfl⟩
theorem iX5_undo_0 : Ins mX5_undo 0 1 1 (.aload_n 0) := ⟨by decide +kernel, rfl⟩
theorem iX5_undo_1 : Ins mX5_undo 1 4 3 (.getfield 341) := ⟨by decide +kernel, rfl⟩
theorem iX5_undo_4 : InB mX5_undo 4 7 14 (.ifCond .ne) := ⟨by decide +kernel, rfl⟩
theorem iX5_undo_7 : Ins mX5_undo 7 8 1 (.aload_n 0) := ⟨by decide +kernel, rfl⟩
theorem iX5_undo_8 : Ins mX5_undo 8 10 2 (.ldc 65) := ⟨by decide +kernel, rfl⟩
theorem iX5_undo_10 : Ins mX5_undo 10 13 3 (.invokevirtual 66) := ⟨by decide +kernel, rfl⟩
theorem iX5_undo_13 : Ins mX5_undo 13 14 1 (.ireturn) := ⟨by decide +kernel, rfl⟩
theorem iX5_undo_14 : Ins mX5_undo 14 15 1 (.aload_n 0) := ⟨by decide +kernel, rfl⟩
theorem iX5_undo_15 : Ins mX5_undo 15 18 3 (.getfield 13) := ⟨by decide +kernel, rfl⟩
theorem iX5_undo_18 : Ins mX5_undo 18 19 1 (.aload_n 0) := ⟨by decide +kernel, rfl⟩
theorem iX5_undo_19 : Ins mX5_undo 19 22 3 (.getfield 9) := ⟨by decide +kernel, rfl⟩
theorem iX5_undo_22 : Ins mX5_undo 22 25 3 (.invokestatic 61) := ⟨by decide +kernel, rfl⟩
theorem iX5_undo_25 : Ins mX5_undo 25 26 1 (.aload_n 0) := ⟨by decide +kernel, rfl⟩
theorem iX5_undo_26 : Ins mX5_undo 26 29 3 (.getfield 9) := ⟨by decide +kernel, rfl⟩
theorem iX5_undo_29 : Ins mX5_undo 29 30 1 (.iconst 0) := ⟨by decide +kernel, rfl⟩
theorem iX5_undo_30 : Ins mX5_undo 30 31 1 (.iaload) := ⟨by decide +kernel, rfl⟩
theorem iX5_undo_31 : Ins mX5_undo 31 32 1 (.ireturn) := ⟨by decide +kernel, rfl⟩
theorem iX5_tear_0 : Ins mX5_tear 0 1 1 (.aload_n 0) := ⟨by decide +kernel, rfl⟩
theorem iX5_tear_1 : Ins mX5_tear 1 4 3 (.getfield 341) := ⟨by decide +kernel, rfl⟩
theorem iX5_tear_4 : InB mX5_tear 4 7 11 (.ifCond .eq) := ⟨by decide +kernel, rfl⟩
theorem iX5_tear_7 : Ins mX5_tear 7 8 1 (.iconst 1) := ⟨by decide +kernel, rfl⟩
theorem iX5_tear_8 : InB mX5_tear 8 11 12 .goto := ⟨by decide +kernel, rfl⟩
theorem iX5_tear_11 : Ins mX5_tear 11 12 1 (.iconst 0) := ⟨by decide +kernel, rfl⟩
theorem iX5_tear_12 : Ins mX5_tear 12 13 1 (.istore_n 1) := ⟨by decide +kernel, rfl⟩
theorem iX5_tear_13 : Ins mX5_tear 13 14 1 (.aload_n 0) := ⟨by decide +kernel, rfl⟩
theorem iX5_tear_14 : Ins mX5_tear 14 15 1 (.iconst 0) := ⟨by decide +kernel, rfl⟩
theorem iX5_tear_15 : Ins mX5_tear 15 18 3 (.putfield 341) := ⟨by decide +kernel, rfl⟩
theorem iX5_tear_18 : Ins mX5_tear 18 19 1 (.iload_n 1) := ⟨by decide +kernel, rfl⟩
theorem iX5_tear_19 : Ins mX5_tear 19 20 1 (.ireturn) := ⟨by decide +kernel, rfl⟩
theorem iX5_count_0 : Ins mX5_count 0 1 1 (.iconst 0) := ⟨by decide +kernel, rfl⟩
theorem iX5_count_1 : Ins mX5_count 1 2 1 (.istore_n 2) := ⟨by decide +kernel, rfl⟩
theorem iX5_count_2 : Ins mX5_count 2 3 1 (.iload_n 1) := ⟨by decide +kernel, rfl⟩
theorem iX5_count_3 : decode mX5_count.2.1 3 = .ok (.tableswitch 126 0 7 #[45, 52, 59, 66, 73, 78, 83, 90], 45) := by decide +kernel
theorem iX5_count_48 : Ins mX5_count 48 49 1 (.aload_n 0) := ⟨by decide +kernel, rfl⟩
theorem iX5_count_49 : Ins mX5_count 49 52 3 (.getfield 9) := ⟨by decide +kernel, rfl⟩
theorem iX5_count_52 : Ins mX5_count 52 53 1 (.iconst 0) := ⟨by decide +kernel, rfl⟩
theorem iX5_count_53 : Ins mX5_count 53 54 1 (.iaload) := ⟨by decide +kernel, rfl⟩
theorem iX5_count_54 : Ins mX5_count 54 55 1 (.ireturn) := ⟨by decide +kernel, rfl⟩
theorem iX5_count_55 : Ins mX5_count 55 56 1 (.aload_n 0) := ⟨by decide +kernel, rfl⟩
theorem iX5_count_56 : Ins mX5_count 56 59 3 (.getfield 9) := ⟨by decide +kernel, rfl⟩
theorem iX5_count_59 : Ins mX5_count 59 60 1 (.iconst 1) := ⟨by decide +kernel, rfl⟩
theorem iX5_count_60 : Ins mX5_count 60 61 1 (.iaload) := ⟨by decide +kernel, rfl⟩
theorem iX5_count_61 : Ins mX5_count 61 62 1 (.ireturn) := ⟨by decide +kernel, rfl⟩
theorem iX5_count_62 : Ins mX5_count 62 63 1 (.aload_n 0) := ⟨by decide +kernel, rfl⟩
theorem iX5_count_63 : Ins mX5_count 63 66 3 (.getfield 9) := ⟨by decide +kernel, rfl⟩
theorem iX5_count_66 : Ins mX5_count 66 67 1 (.iconst 3) := ⟨by decide +kernel, rfl⟩
theorem iX5_count_67 : Ins mX5_count 67 68 1 (.iaload) := ⟨by decide +kernel, rfl⟩
theorem iX5_count_68 : Ins mX5_count 68 69 1 (.ireturn) := ⟨by decide +kernel, rfl⟩
theorem iX5_count_69 : Ins mX5_count 69 70 1 (.aload_n 0) := ⟨by decide +kernel, rfl⟩
theorem iX5_count_70 : Ins mX5_count 70 73 3 (.getfield 9) := ⟨by decide +kernel, rfl⟩
theorem iX5_count_73 : Ins mX5_count 73 74 1 (.iconst 4) := ⟨by decide +kernel, rfl⟩
theorem iX5_count_74 : Ins mX5_count 74 75 1 (.iaload) := ⟨by decide +kernel, rfl⟩
theorem iX5_count_75 : Ins mX5_count 75 76 1 (.ireturn) := ⟨by decide +kernel, rfl⟩
theorem iX5_count_76 : Ins mX5_count 76 77 1 (.aload_n 0) := ⟨by decide +kernel, rfl⟩
theorem iX5_count_77 : Ins mX5_count 77 80 3 (.invokevirtual 198) := ⟨by decide +kernel, rfl⟩
theorem iX5_count_80 : Ins mX5_count 80 81 1 (.ireturn) := ⟨by decide +kernel, rfl⟩
theorem iX5_count_81 : Ins mX5_count 81 82 1 (.aload_n 0) := ⟨by decide +kernel, rfl⟩
theorem iX5_count_82 : Ins mX5_count 82 85 3 (.getfield 247) := ⟨by decide +kernel, rfl⟩
theorem iX5_count_85 : Ins mX5_count 85 86 1 (.ireturn) := ⟨by decide +kernel, rfl⟩
theorem iX5_count_86 : Ins mX5_count 86 87 1 (.aload_n 0) := ⟨by decide +kernel, rfl⟩
theorem iX5_count_87 : Ins mX5_count 87 90 3 (.getfield 9) := ⟨by decide +kernel, rfl⟩
theorem iX5_count_90 : Ins mX5_count 90 91 1 (.iconst 2) := ⟨by decide +kernel, rfl⟩
theorem iX5_count_91 : Ins mX5_count 91 92 1 (.iaload) := ⟨by decide +kernel, rfl⟩
theorem iX5_count_92 : Ins mX5_count 92 93 1 (.ireturn) := ⟨by decide +kernel, rfl⟩
theorem iX5_count_93 : Ins mX5_count 93 94 1 (.iconst 0) := ⟨by decide +kernel, rfl⟩
theorem iX5_count_94 : Ins mX5_count 94 95 1 (.istore_n 3) := ⟨by decide +kernel, rfl⟩
theorem iX5_count_95 : Ins mX5_count 95 96 1 (.iload_n 3) := ⟨by decide +kernel, rfl⟩
theorem iX5_count_96 : Ins mX5_count 96 98 2 (.bipush 10) := ⟨by decide +kernel, rfl⟩
theorem iX5_count_98 : InB mX5_count 98 101 127 (.if_icmp .ge) := ⟨by decide +kernel, rfl⟩
theorem iX5_count_101 : Ins mX5_count 101 102 1 (.iload_n 2) := ⟨by decide +kernel, rfl⟩
theorem iX5_count_102 : Ins mX5_count 102 103 1 (.aload_n 0) := ⟨by decide +kernel, rfl⟩
theorem iX5_count_103 : Ins mX5_count 103 106 3 (.getfield 9) := ⟨by decide +kernel, rfl⟩
theorem iX5_count_106 : Ins mX5_count 106 108 2 (.bipush 11) := ⟨by decide +kernel, rfl⟩
theorem iX5_count_108 : Ins mX5_count 108 109 1 (.iload_n 3) := ⟨by decide +kernel, rfl⟩
theorem iX5_count_109 : Ins mX5_count 109 110 1 (.iadd) := ⟨by decide +kernel, rfl⟩
theorem iX5_count_110 : Ins mX5_count 110 111 1 (.iaload) := ⟨by decide +kernel, rfl⟩
theorem iX5_count_111 : InB mX5_count 111 114 118 (.ifCond .ge) := ⟨by decide +kernel, rfl⟩
theorem iX5_count_114 : Ins mX5_count 114 115 1 (.iconst 0) := ⟨by decide +kernel, rfl⟩
theorem iX5_count_115 : InB mX5_count 115 118 119 .goto := ⟨by decide +kernel, rfl⟩
theorem iX5_count_118 : Ins mX5_count 118 119 1 (.iconst 1) := ⟨by decide +kernel, rfl⟩
theorem iX5_count_119 : Ins mX5_count 119 120 1 (.iadd) := ⟨by decide +kernel, rfl⟩
theorem iX5_count_120 : Ins mX5_count 120 121 1 (.istore_n 2) := ⟨by decide +kernel, rfl⟩
theorem iX5_count_121 : Ins mX5_count 121 124 3 (.iinc 3 1) := ⟨by decide +kernel, rfl⟩
theorem iX5_count_124 : InB mX5_count 124 127 95 .goto := ⟨by decide +kernel, rfl⟩
theorem iX5_count_127 : Ins mX5_count 127 128 1 (.iload_n 2) := ⟨by decide +kernel, rfl⟩
theorem iX5_count_128 : Ins mX5_count 128 129 1 (.ireturn) := ⟨by decide +kernel, rfl⟩
theorem iX5_count_129 : Ins mX5_count 129 130 1 (.aload_n 0) := ⟨by decide +kernel, rfl⟩
theorem iX5_count_130 : Ins mX5_count 130 132 2 (.ldc 60) := ⟨by decide +kernel, rfl⟩
theorem iX5_count_132 : Ins mX5_count 132 135 3 (.invokevirtual 66) := ⟨by decide +kernel, rfl⟩
theorem iX5_count_135 : Ins mX5_count 135 136 1 (.ireturn) := ⟨by decide +kernel, rfl⟩
theorem iX5_status_0 : Ins mX5_status 0 1 1 (.iload_n 1) := ⟨by decide +kernel, rfl⟩
theorem iX5_status_1 : Ins mX5_status 1 2 1 (.iconst (-1)) := ⟨by decide +kernel, rfl⟩
theorem iX5_status_2 : Ins mX5_status 2 4 2 (.bipush 6) := ⟨by decide +kernel, rfl⟩
theorem iX5_status_4 : Ins mX5_status 4 7 3 (.invokestatic 70) := ⟨by decide +kernel, rfl⟩
theorem iX5_status_7 : InB mX5_status 7 10 21 (.ifCond .eq) := ⟨by decide +kernel, rfl⟩
theorem iX5_status_10 : Ins mX5_status 10 11 1 (.aload_n 0) := ⟨by decide +kernel, rfl⟩
theorem iX5_status_11 : Ins mX5_status 11 14 3 (.getfield 19) := ⟨by decide +kernel, rfl⟩
theorem iX5_status_14 : Ins mX5_status 14 15 1 (.iload_n 1) := ⟨by decide +kernel, rfl⟩
theorem iX5_status_15 : Ins mX5_status 15 16 1 (.iconst 1) := ⟨by decide +kernel, rfl⟩
theorem iX5_status_16 : Ins mX5_status 16 17 1 (.iadd) := ⟨by decide +kernel, rfl⟩
theorem iX5_status_17 : Ins mX5_status 17 18 1 (.iaload) := ⟨by decide +kernel, rfl⟩
theorem iX5_status_18 : InB mX5_status 18 21 27 .goto := ⟨by decide +kernel, rfl⟩
theorem iX5_status_21 : Ins mX5_status 21 22 1 (.aload_n 0) := ⟨by decide +kernel, rfl⟩
theorem iX5_status_22 : Ins mX5_status 22 24 2 (.ldc 60) := ⟨by decide +kernel, rfl⟩
theorem iX5_status_24 : Ins mX5_status 24 27 3 (.invokevirtual 66) := ⟨by decide +kernel, rfl⟩
theorem iX5_status_27 : Ins mX5_status 27 28 1 (.ireturn) := ⟨by decide +kernel, rfl⟩
end
section
theorem iL_law_0 : Ins mL_law 0 3 3 (.new 7) := ⟨by decide +kernel, rfl⟩
theorem iL_law_3 : Ins mL_law 3 4 1 (.dup) := ⟨by decide +kernel, rfl⟩
theorem iL_law_4 : Ins mL_law 4 7 3 (.invokespecial 9) := ⟨by decide +kernel, rfl⟩
theorem iL_law_7 : Ins mL_law 7 8 1 (.astore_n 1) := ⟨by decide +kernel, rfl⟩
theorem iL_law_8 : Ins mL_law 8 11 3 (.new 10) := ⟨by decide +kernel, rfl⟩
theorem iL_law_11 : Ins mL_law 11 12 1 (.dup) := ⟨by decide +kernel, rfl⟩
theorem iL_law_12 : Ins mL_law 12 15 3 (.invokespecial 12) := ⟨by decide +kernel, rfl⟩
theorem iL_law_15 : Ins mL_law 15 16 1 (.astore_n 2) := ⟨by decide +kernel, rfl⟩
theorem iL_law_16 : Ins mL_law 16 17 1 (.iconst 0) := ⟨by decide +kernel, rfl⟩
theorem iL_law_17 : Ins mL_law 17 18 1 (.istore_n 3) := ⟨by decide +kernel, rfl⟩
theorem iL_law_18 : Ins mL_law 18 19 1 (.iload_n 3) := ⟨by decide +kernel, rfl⟩
theorem iL_law_19 : Ins mL_law 19 20 1 (.aload_n 0) := ⟨by decide +kernel, rfl⟩
theorem iL_law_20 : Ins mL_law 20 21 1 (.arraylength) := ⟨by decide +kernel, rfl⟩
theorem iL_law_21 : Ins mL_law 21 23 2 (.bipush 6) := ⟨by decide +kernel, rfl⟩
theorem iL_law_23 : Ins mL_law 23 24 1 (.isub) := ⟨by decide +kernel, rfl⟩
theorem iL_law_24 : InB mL_law 24 27 1586 (.if_icmp .gt) := ⟨by decide +kernel, rfl⟩
theorem iL_law_27 : Ins mL_law 27 28 1 (.aload_n 0) := ⟨by decide +kernel, rfl⟩
theorem iL_law_28 : Ins mL_law 28 29 1 (.iload_n 3) := ⟨by decide +kernel, rfl⟩
theorem iL_law_29 : Ins mL_law 29 30 1 (.iaload) := ⟨by decide +kernel, rfl⟩
theorem iL_law_30 : Ins mL_law 30 32 2 (.bipush 63) := ⟨by decide +kernel, rfl⟩
theorem iL_law_32 : Ins mL_law 32 33 1 (.iand) := ⟨by decide +kernel, rfl⟩
theorem iL_law_33 : decode mL_law.2.1 33 = .ok (.tableswitch 1547 0 42 #[187, 230, 253, 286, 329, 362, 405, 438, 481, 514, 547, 580, 603, 626, 669, 702, 735, 768, 791, 824, 857, 900, 933, 976, 1009, 1042, 1065, 1119, 1142, 1175, 1188, 1201, 1234, 1267, 1310, 1353, 1416, 1439, 1462, 1475, 1488, 1501, 1524], 187) := by decide +kernel
theorem iL_law_220 : Ins mL_law 220 221 1 (.aload_n 1) := ⟨by decide +kernel, rfl⟩
theorem iL_law_221 : Ins mL_law 221 222 1 (.aload_n 0) := ⟨by decide +kernel, rfl⟩
theorem iL_law_222 : Ins mL_law 222 223 1 (.iload_n 3) := ⟨by decide +kernel, rfl⟩
theorem iL_law_223 : Ins mL_law 223 224 1 (.iconst 1) := ⟨by decide +kernel, rfl⟩
theorem iL_law_224 : Ins mL_law 224 225 1 (.iadd) := ⟨by decide +kernel, rfl⟩
theorem iL_law_225 : Ins mL_law 225 226 1 (.iaload) := ⟨by decide +kernel, rfl⟩
theorem iL_law_226 : Ins mL_law 226 227 1 (.aload_n 0) := ⟨by decide +kernel, rfl⟩
theorem iL_law_227 : Ins mL_law 227 228 1 (.iload_n 3) := ⟨by decide +kernel, rfl⟩
theorem iL_law_228 : Ins mL_law 228 229 1 (.iconst 2) := ⟨by decide +kernel, rfl⟩
theorem iL_law_229 : Ins mL_law 229 230 1 (.iadd) := ⟨by decide +kernel, rfl⟩
theorem iL_law_230 : Ins mL_law 230 231 1 (.iaload) := ⟨by decide +kernel, rfl⟩
theorem iL_law_231 : Ins mL_law 231 232 1 (.aload_n 0) := ⟨by decide +kernel, rfl⟩
theorem iL_law_232 : Ins mL_law 232 233 1 (.iload_n 3) := ⟨by decide +kernel, rfl⟩
theorem iL_law_233 : Ins mL_law 233 234 1 (.iconst 3) := ⟨by decide +kernel, rfl⟩
theorem iL_law_234 : Ins mL_law 234 235 1 (.iadd) := ⟨by decide +kernel, rfl⟩
theorem iL_law_235 : Ins mL_law 235 236 1 (.iaload) := ⟨by decide +kernel, rfl⟩
theorem iL_law_236 : Ins mL_law 236 239 3 (.invokevirtual 13) := ⟨by decide +kernel, rfl⟩
theorem iL_law_239 : Ins mL_law 239 240 1 (.aload_n 2) := ⟨by decide +kernel, rfl⟩
theorem iL_law_240 : Ins mL_law 240 241 1 (.aload_n 0) := ⟨by decide +kernel, rfl⟩
theorem iL_law_241 : Ins mL_law 241 242 1 (.iload_n 3) := ⟨by decide +kernel, rfl⟩
theorem iL_law_242 : Ins mL_law 242 243 1 (.iconst 1) := ⟨by decide +kernel, rfl⟩
theorem iL_law_243 : Ins mL_law 243 244 1 (.iadd) := ⟨by decide +kernel, rfl⟩
theorem iL_law_244 : Ins mL_law 244 245 1 (.iaload) := ⟨by decide +kernel, rfl⟩
theorem iL_law_245 : Ins mL_law 245 246 1 (.aload_n 0) := ⟨by decide +kernel, rfl⟩
theorem iL_law_246 : Ins mL_law 246 247 1 (.iload_n 3) := ⟨by decide +kernel, rfl⟩
theorem iL_law_247 : Ins mL_law 247 248 1 (.iconst 2) := ⟨by decide +kernel, rfl⟩
theorem iL_law_248 : Ins mL_law 248 249 1 (.iadd) := ⟨by decide +kernel, rfl⟩
theorem iL_law_249 : Ins mL_law 249 250 1 (.iaload) := ⟨by decide +kernel, rfl⟩
theorem iL_law_250 : Ins mL_law 250 251 1 (.aload_n 0) := ⟨by decide +kernel, rfl⟩
theorem iL_law_251 : Ins mL_law 251 252 1 (.iload_n 3) := ⟨by decide +kernel, rfl⟩
theorem iL_law_252 : Ins mL_law 252 253 1 (.iconst 3) := ⟨by decide +kernel, rfl⟩
theorem iL_law_253 : Ins mL_law 253 254 1 (.iadd) := ⟨by decide +kernel, rfl⟩
theorem iL_law_254 : Ins mL_law 254 255 1 (.iaload) := ⟨by decide +kernel, rfl⟩
theorem iL_law_255 : Ins mL_law 255 258 3 (.invokevirtual 17) := ⟨by decide +kernel, rfl⟩
theorem iL_law_258 : InB mL_law 258 261 1580 (.if_icmp .eq) := ⟨by decide +kernel, rfl⟩
theorem iL_law_261 : Ins mL_law 261 262 1 (.iconst 0) := ⟨by decide +kernel, rfl⟩
theorem iL_law_262 : Ins mL_law 262 263 1 (.ireturn) := ⟨by decide +kernel, rfl⟩
theorem iL_law_263 : Ins mL_law 263 264 1 (.aload_n 1) := ⟨by decide +kernel, rfl⟩
theorem iL_law_264 : Ins mL_law 264 265 1 (.aload_n 0) := ⟨by decide +kernel, rfl⟩
theorem iL_law_265 : Ins mL_law 265 266 1 (.iload_n 3) := ⟨by decide +kernel, rfl⟩
theorem iL_law_266 : Ins mL_law 266 267 1 (.iconst 1) := ⟨by decide +kernel, rfl⟩
theorem iL_law_267 : Ins mL_law 267 268 1 (.iadd) := ⟨by decide +kernel, rfl⟩
theorem iL_law_268 : Ins mL_law 268 269 1 (.iaload) := ⟨by decide +kernel, rfl⟩
theorem iL_law_269 : Ins mL_law 269 272 3 (.invokevirtual 18) := ⟨by decide +kernel, rfl⟩
theorem iL_law_272 : Ins mL_law 272 273 1 (.aload_n 2) := ⟨by decide +kernel, rfl⟩
theorem iL_law_273 : Ins mL_law 273 274 1 (.aload_n 0) := ⟨by decide +kernel, rfl⟩
theorem iL_law_274 : Ins mL_law 274 275 1 (.iload_n 3) := ⟨by decide +kernel, rfl⟩
theorem iL_law_275 : Ins mL_law 275 276 1 (.iconst 1) := ⟨by decide +kernel, rfl⟩
theorem iL_law_276 : Ins mL_law 276 277 1 (.iadd) := ⟨by decide +kernel, rfl⟩
theorem iL_law_277 : Ins mL_law 277 278 1 (.iaload) := ⟨by decide +kernel, rfl⟩
theorem iL_law_278 : Ins mL_law 278 281 3 (.invokevirtual 22) := ⟨by decide +kernel, rfl⟩
theorem iL_law_281 : InB mL_law 281 284 1580 (.if_icmp .eq) := ⟨by decide +kernel, rfl⟩
theorem iL_law_284 : Ins mL_law 284 285 1 (.iconst 0) := ⟨by decide +kernel, rfl⟩
theorem iL_law_285 : Ins mL_law 285 286 1 (.ireturn) := ⟨by decide +kernel, rfl⟩
theorem iL_law_286 : Ins mL_law 286 287 1 (.aload_n 1) := ⟨by decide +kernel, rfl⟩
theorem iL_law_287 : Ins mL_law 287 288 1 (.aload_n 0) := ⟨by decide +kernel, rfl⟩
theorem iL_law_288 : Ins mL_law 288 289 1 (.iload_n 3) := ⟨by decide +kernel, rfl⟩
theorem iL_law_289 : Ins mL_law 289 290 1 (.iconst 1) := ⟨by decide +kernel, rfl⟩
theorem iL_law_290 : Ins mL_law 290 291 1 (.iadd) := ⟨by decide +kernel, rfl⟩
theorem iL_law_291 : Ins mL_law 291 292 1 (.iaload) := ⟨by decide +kernel, rfl⟩
theorem iL_law_292 : Ins mL_law 292 293 1 (.aload_n 0) := ⟨by decide +kernel, rfl⟩
theorem iL_law_293 : Ins mL_law 293 294 1 (.iload_n 3) := ⟨by decide +kernel, rfl⟩
theorem iL_law_294 : Ins mL_law 294 295 1 (.iconst 2) := ⟨by decide +kernel, rfl⟩
theorem iL_law_295 : Ins mL_law 295 296 1 (.iadd) := ⟨by decide +kernel, rfl⟩
theorem iL_law_296 : Ins mL_law 296 297 1 (.iaload) := ⟨by decide +kernel, rfl⟩
theorem iL_law_297 : Ins mL_law 297 300 3 (.invokevirtual 23) := ⟨by decide +kernel, rfl⟩
theorem iL_law_300 : Ins mL_law 300 301 1 (.aload_n 2) := ⟨by decide +kernel, rfl⟩
theorem iL_law_301 : Ins mL_law 301 302 1 (.aload_n 0) := ⟨by decide +kernel, rfl⟩
theorem iL_law_302 : Ins mL_law 302 303 1 (.iload_n 3) := ⟨by decide +kernel, rfl⟩
theorem iL_law_303 : Ins mL_law 303 304 1 (.iconst 1) := ⟨by decide +kernel, rfl⟩
theorem iL_law_304 : Ins mL_law 304 305 1 (.iadd) := ⟨by decide +kernel, rfl⟩
theorem iL_law_305 : Ins mL_law 305 306 1 (.iaload) := ⟨by decide +kernel, rfl⟩
theorem iL_law_306 : Ins mL_law 306 307 1 (.aload_n 0) := ⟨by decide +kernel, rfl⟩
theorem iL_law_307 : Ins mL_law 307 308 1 (.iload_n 3) := ⟨by decide +kernel, rfl⟩
theorem iL_law_308 : Ins mL_law 308 309 1 (.iconst 2) := ⟨by decide +kernel, rfl⟩
theorem iL_law_309 : Ins mL_law 309 310 1 (.iadd) := ⟨by decide +kernel, rfl⟩
theorem iL_law_310 : Ins mL_law 310 311 1 (.iaload) := ⟨by decide +kernel, rfl⟩
theorem iL_law_311 : Ins mL_law 311 314 3 (.invokevirtual 27) := ⟨by decide +kernel, rfl⟩
theorem iL_law_314 : InB mL_law 314 317 1580 (.if_icmp .eq) := ⟨by decide +kernel, rfl⟩
theorem iL_law_317 : Ins mL_law 317 318 1 (.iconst 0) := ⟨by decide +kernel, rfl⟩
theorem iL_law_318 : Ins mL_law 318 319 1 (.ireturn) := ⟨by decide +kernel, rfl⟩
theorem iL_law_319 : Ins mL_law 319 320 1 (.aload_n 1) := ⟨by decide +kernel, rfl⟩
theorem iL_law_320 : Ins mL_law 320 321 1 (.aload_n 0) := ⟨by decide +kernel, rfl⟩
theorem iL_law_321 : Ins mL_law 321 322 1 (.iload_n 3) := ⟨by decide +kernel, rfl⟩
theorem iL_law_322 : Ins mL_law 322 323 1 (.iconst 1) := ⟨by decide +kernel, rfl⟩
theorem iL_law_323 : Ins mL_law 323 324 1 (.iadd) := ⟨by decide +kernel, rfl⟩
theorem iL_law_324 : Ins mL_law 324 325 1 (.iaload) := ⟨by decide +kernel, rfl⟩
theorem iL_law_325 : Ins mL_law 325 326 1 (.aload_n 0) := ⟨by decide +kernel, rfl⟩
theorem iL_law_326 : Ins mL_law 326 327 1 (.iload_n 3) := ⟨by decide +kernel, rfl⟩
theorem iL_law_327 : Ins mL_law 327 328 1 (.iconst 2) := ⟨by decide +kernel, rfl⟩
theorem iL_law_328 : Ins mL_law 328 329 1 (.iadd) := ⟨by decide +kernel, rfl⟩
theorem iL_law_329 : Ins mL_law 329 330 1 (.iaload) := ⟨by decide +kernel, rfl⟩
theorem iL_law_330 : Ins mL_law 330 331 1 (.aload_n 0) := ⟨by decide +kernel, rfl⟩
theorem iL_law_331 : Ins mL_law 331 332 1 (.iload_n 3) := ⟨by decide +kernel, rfl⟩
theorem iL_law_332 : Ins mL_law 332 333 1 (.iconst 3) := ⟨by decide +kernel, rfl⟩
theorem iL_law_333 : Ins mL_law 333 334 1 (.iadd) := ⟨by decide +kernel, rfl⟩
theorem iL_law_334 : Ins mL_law 334 335 1 (.iaload) := ⟨by decide +kernel, rfl⟩
theorem iL_law_335 : Ins mL_law 335 338 3 (.invokevirtual 28) := ⟨by decide +kernel, rfl⟩
theorem iL_law_338 : Ins mL_law 338 339 1 (.aload_n 2) := ⟨by decide +kernel, rfl⟩
theorem iL_law_339 : Ins mL_law 339 340 1 (.aload_n 0) := ⟨by decide +kernel, rfl⟩
theorem iL_law_340 : Ins mL_law 340 341 1 (.iload_n 3) := ⟨by decide +kernel, rfl⟩
theorem iL_law_341 : Ins mL_law 341 342 1 (.iconst 1) := ⟨by decide +kernel, rfl⟩
theorem iL_law_342 : Ins mL_law 342 343 1 (.iadd) := ⟨by decide +kernel, rfl⟩
theorem iL_law_343 : Ins mL_law 343 344 1 (.iaload) := ⟨by decide +kernel, rfl⟩
theorem iL_law_344 : Ins mL_law 344 345 1 (.aload_n 0) := ⟨by decide +kernel, rfl⟩
theorem iL_law_345 : Ins mL_law 345 346 1 (.iload_n 3) := ⟨by decide +kernel, rfl⟩
theorem iL_law_346 : Ins mL_law 346 347 1 (.iconst 2) := ⟨by decide +kernel, rfl⟩
theorem iL_law_347 : Ins mL_law 347 348 1 (.iadd) := ⟨by decide +kernel, rfl⟩
theorem iL_law_348 : Ins mL_law 348 349 1 (.iaload) := ⟨by decide +kernel, rfl⟩
theorem iL_law_349 : Ins mL_law 349 350 1 (.aload_n 0) := ⟨by decide +kernel, rfl⟩
theorem iL_law_350 : Ins mL_law 350 351 1 (.iload_n 3) := ⟨by decide +kernel, rfl⟩
theorem iL_law_351 : Ins mL_law 351 352 1 (.iconst 3) := ⟨by decide +kernel, rfl⟩
theorem iL_law_352 : Ins mL_law 352 353 1 (.iadd) := ⟨by decide +kernel, rfl⟩
theorem iL_law_353 : Ins mL_law 353 354 1 (.iaload) := ⟨by decide +kernel, rfl⟩
theorem iL_law_354 : Ins mL_law 354 357 3 (.invokevirtual 31) := ⟨by decide +kernel, rfl⟩
theorem iL_law_357 : InB mL_law 357 360 1580 (.if_icmp .eq) := ⟨by decide +kernel, rfl⟩
theorem iL_law_360 : Ins mL_law 360 361 1 (.iconst 0) := ⟨by decide +kernel, rfl⟩
theorem iL_law_361 : Ins mL_law 361 362 1 (.ireturn) := ⟨by decide +kernel, rfl⟩
theorem iL_law_362 : Ins mL_law 362 363 1 (.aload_n 1) := ⟨by decide +kernel, rfl⟩
theorem iL_law_363 : Ins mL_law 363 364 1 (.aload_n 0) := ⟨by decide +kernel, rfl⟩
theorem iL_law_364 : Ins mL_law 364 365 1 (.iload_n 3) := ⟨by decide +kernel, rfl⟩
theorem iL_law_365 : Ins mL_law 365 366 1 (.iconst 1) := ⟨by decide +kernel, rfl⟩
theorem iL_law_366 : Ins mL_law 366 367 1 (.iadd) := ⟨by decide +kernel, rfl⟩
theorem iL_law_367 : Ins mL_law 367 368 1 (.iaload) := ⟨by decide +kernel, rfl⟩
theorem iL_law_368 : Ins mL_law 368 369 1 (.aload_n 0) := ⟨by decide +kernel, rfl⟩
theorem iL_law_369 : Ins mL_law 369 370 1 (.iload_n 3) := ⟨by decide +kernel, rfl⟩
theorem iL_law_370 : Ins mL_law 370 371 1 (.iconst 2) := ⟨by decide +kernel, rfl⟩
theorem iL_law_371 : Ins mL_law 371 372 1 (.iadd) := ⟨by decide +kernel, rfl⟩
theorem iL_law_372 : Ins mL_law 372 373 1 (.iaload) := ⟨by decide +kernel, rfl⟩
theorem iL_law_373 : Ins mL_law 373 376 3 (.invokevirtual 32) := ⟨by decide +kernel, rfl⟩
theorem iL_law_376 : Ins mL_law 376 377 1 (.aload_n 2) := ⟨by decide +kernel, rfl⟩
theorem iL_law_377 : Ins mL_law 377 378 1 (.aload_n 0) := ⟨by decide +kernel, rfl⟩
theorem iL_law_378 : Ins mL_law 378 379 1 (.iload_n 3) := ⟨by decide +kernel, rfl⟩
theorem iL_law_379 : Ins mL_law 379 380 1 (.iconst 1) := ⟨by decide +kernel, rfl⟩
theorem iL_law_380 : Ins mL_law 380 381 1 (.iadd) := ⟨by decide +kernel, rfl⟩
theorem iL_law_381 : Ins mL_law 381 382 1 (.iaload) := ⟨by decide +kernel, rfl⟩
theorem iL_law_382 : Ins mL_law 382 383 1 (.aload_n 0) := ⟨by decide +kernel, rfl⟩
theorem iL_law_383 : Ins mL_law 383 384 1 (.iload_n 3) := ⟨by decide +kernel, rfl⟩
theorem iL_law_384 : Ins mL_law 384 385 1 (.iconst 2) := ⟨by decide +kernel, rfl⟩
theorem iL_law_385 : Ins mL_law 385 386 1 (.iadd) := ⟨by decide +kernel, rfl⟩
theorem iL_law_386 : Ins mL_law 386 387 1 (.iaload) := ⟨by decide +kernel, rfl⟩
theorem iL_law_387 : Ins mL_law 387 390 3 (.invokevirtual 35) := ⟨by decide +kernel, rfl⟩
theorem iL_law_390 : InB mL_law 390 393 1580 (.if_icmp .eq) := ⟨by decide +kernel, rfl⟩
theorem iL_law_393 : Ins mL_law 393 394 1 (.iconst 0) := ⟨by decide +kernel, rfl⟩
theorem iL_law_394 : Ins mL_law 394 395 1 (.ireturn) := ⟨by decide +kernel, rfl⟩
theorem iL_law_395 : Ins mL_law 395 396 1 (.aload_n 1) := ⟨by decide +kernel, rfl⟩
theorem iL_law_396 : Ins mL_law 396 397 1 (.aload_n 0) := ⟨by decide +kernel, rfl⟩
theorem iL_law_397 : Ins mL_law 397 398 1 (.iload_n 3) := ⟨by decide +kernel, rfl⟩
theorem iL_law_398 : Ins mL_law 398 399 1 (.iconst 1) := ⟨by decide +kernel, rfl⟩
theorem iL_law_399 : Ins mL_law 399 400 1 (.iadd) := ⟨by decide +kernel, rfl⟩
theorem iL_law_400 : Ins mL_law 400 401 1 (.iaload) := ⟨by decide +kernel, rfl⟩
theorem iL_law_401 : Ins mL_law 401 402 1 (.aload_n 0) := ⟨by decide +kernel, rfl⟩
theorem iL_law_402 : Ins mL_law 402 403 1 (.iload_n 3) := ⟨by decide +kernel, rfl⟩
theorem iL_law_403 : Ins mL_law 403 404 1 (.iconst 2) := ⟨by decide +kernel, rfl⟩
theorem iL_law_404 : Ins mL_law 404 405 1 (.iadd) := ⟨by decide +kernel, rfl⟩
theorem iL_law_405 : Ins mL_law 405 406 1 (.iaload) := ⟨by decide +kernel, rfl⟩
theorem iL_law_406 : Ins mL_law 406 407 1 (.aload_n 0) := ⟨by decide +kernel, rfl⟩
theorem iL_law_407 : Ins mL_law 407 408 1 (.iload_n 3) := ⟨by decide +kernel, rfl⟩
theorem iL_law_408 : Ins mL_law 408 409 1 (.iconst 3) := ⟨by decide +kernel, rfl⟩
theorem iL_law_409 : Ins mL_law 409 410 1 (.iadd) := ⟨by decide +kernel, rfl⟩
theorem iL_law_410 : Ins mL_law 410 411 1 (.iaload) := ⟨by decide +kernel, rfl⟩
theorem iL_law_411 : Ins mL_law 411 414 3 (.invokevirtual 36) := ⟨by decide +kernel, rfl⟩
theorem iL_law_414 : Ins mL_law 414 415 1 (.aload_n 2) := ⟨by decide +kernel, rfl⟩
theorem iL_law_415 : Ins mL_law 415 416 1 (.aload_n 0) := ⟨by decide +kernel, rfl⟩
theorem iL_law_416 : Ins mL_law 416 417 1 (.iload_n 3) := ⟨by decide +kernel, rfl⟩
theorem iL_law_417 : Ins mL_law 417 418 1 (.iconst 1) := ⟨by decide +kernel, rfl⟩
theorem iL_law_418 : Ins mL_law 418 419 1 (.iadd) := ⟨by decide +kernel, rfl⟩
theorem iL_law_419 : Ins mL_law 419 420 1 (.iaload) := ⟨by decide +kernel, rfl⟩
theorem iL_law_420 : Ins mL_law 420 421 1 (.aload_n 0) := ⟨by decide +kernel, rfl⟩
theorem iL_law_421 : Ins mL_law 421 422 1 (.iload_n 3) := ⟨by decide +kernel, rfl⟩
theorem iL_law_422 : Ins mL_law 422 423 1 (.iconst 2) := ⟨by decide +kernel, rfl⟩
theorem iL_law_423 : Ins mL_law 423 424 1 (.iadd) := ⟨by decide +kernel, rfl⟩
theorem iL_law_424 : Ins mL_law 424 425 1 (.iaload) := ⟨by decide +kernel, rfl⟩
theorem iL_law_425 : Ins mL_law 425 426 1 (.aload_n 0) := ⟨by decide +kernel, rfl⟩
theorem iL_law_426 : Ins mL_law 426 427 1 (.iload_n 3) := ⟨by decide +kernel, rfl⟩
theorem iL_law_427 : Ins mL_law 427 428 1 (.iconst 3) := ⟨by decide +kernel, rfl⟩
theorem iL_law_428 : Ins mL_law 428 429 1 (.iadd) := ⟨by decide +kernel, rfl⟩
theorem iL_law_429 : Ins mL_law 429 430 1 (.iaload) := ⟨by decide +kernel, rfl⟩
theorem iL_law_430 : Ins mL_law 430 433 3 (.invokevirtual 39) := ⟨by decide +kernel, rfl⟩
theorem iL_law_433 : InB mL_law 433 436 1580 (.if_icmp .eq) := ⟨by decide +kernel, rfl⟩
theorem iL_law_436 : Ins mL_law 436 437 1 (.iconst 0) := ⟨by decide +kernel, rfl⟩
theorem iL_law_437 : Ins mL_law 437 438 1 (.ireturn) := ⟨by decide +kernel, rfl⟩
theorem iL_law_438 : Ins mL_law 438 439 1 (.aload_n 1) := ⟨by decide +kernel, rfl⟩
theorem iL_law_439 : Ins mL_law 439 440 1 (.aload_n 0) := ⟨by decide +kernel, rfl⟩
theorem iL_law_440 : Ins mL_law 440 441 1 (.iload_n 3) := ⟨by decide +kernel, rfl⟩
theorem iL_law_441 : Ins mL_law 441 442 1 (.iconst 1) := ⟨by decide +kernel, rfl⟩
theorem iL_law_442 : Ins mL_law 442 443 1 (.iadd) := ⟨by decide +kernel, rfl⟩
theorem iL_law_443 : Ins mL_law 443 444 1 (.iaload) := ⟨by decide +kernel, rfl⟩
theorem iL_law_444 : Ins mL_law 444 445 1 (.aload_n 0) := ⟨by decide +kernel, rfl⟩
theorem iL_law_445 : Ins mL_law 445 446 1 (.iload_n 3) := ⟨by decide +kernel, rfl⟩
theorem iL_law_446 : Ins mL_law 446 447 1 (.iconst 2) := ⟨by decide +kernel, rfl⟩
theorem iL_law_447 : Ins mL_law 447 448 1 (.iadd) := ⟨by decide +kernel, rfl⟩
theorem iL_law_448 : Ins mL_law 448 449 1 (.iaload) := ⟨by decide +kernel, rfl⟩
theorem iL_law_449 : Ins mL_law 449 452 3 (.invokevirtual 40) := ⟨by decide +kernel, rfl⟩
theorem iL_law_452 : Ins mL_law 452 453 1 (.aload_n 2) := ⟨by decide +kernel, rfl⟩
theorem iL_law_453 : Ins mL_law 453 454 1 (.aload_n 0) := ⟨by decide +kernel, rfl⟩
theorem iL_law_454 : Ins mL_law 454 455 1 (.iload_n 3) := ⟨by decide +kernel, rfl⟩
theorem iL_law_455 : Ins mL_law 455 456 1 (.iconst 1) := ⟨by decide +kernel, rfl⟩
theorem iL_law_456 : Ins mL_law 456 457 1 (.iadd) := ⟨by decide +kernel, rfl⟩
theorem iL_law_457 : Ins mL_law 457 458 1 (.iaload) := ⟨by decide +kernel, rfl⟩
theorem iL_law_458 : Ins mL_law 458 459 1 (.aload_n 0) := ⟨by decide +kernel, rfl⟩
theorem iL_law_459 : Ins mL_law 459 460 1 (.iload_n 3) := ⟨by decide +kernel, rfl⟩
theorem iL_law_460 : Ins mL_law 460 461 1 (.iconst 2) := ⟨by decide +kernel, rfl⟩
theorem iL_law_461 : Ins mL_law 461 462 1 (.iadd) := ⟨by decide +kernel, rfl⟩
theorem iL_law_462 : Ins mL_law 462 463 1 (.iaload) := ⟨by decide +kernel, rfl⟩
theorem iL_law_463 : Ins mL_law 463 466 3 (.invokevirtual 43) := ⟨by decide +kernel, rfl⟩
theorem iL_law_466 : InB mL_law 466 469 1580 (.if_icmp .eq) := ⟨by decide +kernel, rfl⟩
theorem iL_law_469 : Ins mL_law 469 470 1 (.iconst 0) := ⟨by decide +kernel, rfl⟩
theorem iL_law_470 : Ins mL_law 470 471 1 (.ireturn) := ⟨by decide +kernel, rfl⟩
theorem iL_law_471 : Ins mL_law 471 472 1 (.aload_n 1) := ⟨by decide +kernel, rfl⟩
theorem iL_law_472 : Ins mL_law 472 473 1 (.aload_n 0) := ⟨by decide +kernel, rfl⟩
theorem iL_law_473 : Ins mL_law 473 474 1 (.iload_n 3) := ⟨by decide +kernel, rfl⟩
theorem iL_law_474 : Ins mL_law 474 475 1 (.iconst 1) := ⟨by decide +kernel, rfl⟩
theorem iL_law_475 : Ins mL_law 475 476 1 (.iadd) := ⟨by decide +kernel, rfl⟩
theorem iL_law_476 : Ins mL_law 476 477 1 (.iaload) := ⟨by decide +kernel, rfl⟩
theorem iL_law_477 : Ins mL_law 477 478 1 (.aload_n 0) := ⟨by decide +kernel, rfl⟩
theorem iL_law_478 : Ins mL_law 478 479 1 (.iload_n 3) := ⟨by decide +kernel, rfl⟩
theorem iL_law_479 : Ins mL_law 479 480 1 (.iconst 2) := ⟨by decide +kernel, rfl⟩
theorem iL_law_480 : Ins mL_law 480 481 1 (.iadd) := ⟨by decide +kernel, rfl⟩
theorem iL_law_481 : Ins mL_law 481 482 1 (.iaload) := ⟨by decide +kernel, rfl⟩
theorem iL_law_482 : Ins mL_law 482 483 1 (.aload_n 0) := ⟨by decide +kernel, rfl⟩
theorem iL_law_483 : Ins mL_law 483 484 1 (.iload_n 3) := ⟨by decide +kernel, rfl⟩
theorem iL_law_484 : Ins mL_law 484 485 1 (.iconst 3) := ⟨by decide +kernel, rfl⟩
theorem iL_law_485 : Ins mL_law 485 486 1 (.iadd) := ⟨by decide +kernel, rfl⟩
theorem iL_law_486 : Ins mL_law 486 487 1 (.iaload) := ⟨by decide +kernel, rfl⟩
theorem iL_law_487 : Ins mL_law 487 490 3 (.invokevirtual 44) := ⟨by decide +kernel, rfl⟩
theorem iL_law_490 : Ins mL_law 490 491 1 (.aload_n 2) := ⟨by decide +kernel, rfl⟩
theorem iL_law_491 : Ins mL_law 491 492 1 (.aload_n 0) := ⟨by decide +kernel, rfl⟩
theorem iL_law_492 : Ins mL_law 492 493 1 (.iload_n 3) := ⟨by decide +kernel, rfl⟩
theorem iL_law_493 : Ins mL_law 493 494 1 (.iconst 1) := ⟨by decide +kernel, rfl⟩
theorem iL_law_494 : Ins mL_law 494 495 1 (.iadd) := ⟨by decide +kernel, rfl⟩
theorem iL_law_495 : Ins mL_law 495 496 1 (.iaload) := ⟨by decide +kernel, rfl⟩
theorem iL_law_496 : Ins mL_law 496 497 1 (.aload_n 0) := ⟨by decide +kernel, rfl⟩
theorem iL_law_497 : Ins mL_law 497 498 1 (.iload_n 3) := ⟨by decide +kernel, rfl⟩
theorem iL_law_498 : Ins mL_law 498 499 1 (.iconst 2) := ⟨by decide +kernel, rfl⟩
theorem iL_law_499 : Ins mL_law 499 500 1 (.iadd) := ⟨by decide +kernel, rfl⟩
theorem iL_law_500 : Ins mL_law 500 501 1 (.iaload) := ⟨by decide +kernel, rfl⟩
theorem iL_law_501 : Ins mL_law 501 502 1 (.aload_n 0) := ⟨by decide +kernel, rfl⟩
theorem iL_law_502 : Ins mL_law 502 503 1 (.iload_n 3) := ⟨by decide +kernel, rfl⟩
theorem iL_law_503 : Ins mL_law 503 504 1 (.iconst 3) := ⟨by decide +kernel, rfl⟩
theorem iL_law_504 : Ins mL_law 504 505 1 (.iadd) := ⟨by decide +kernel, rfl⟩
theorem iL_law_505 : Ins mL_law 505 506 1 (.iaload) := ⟨by decide +kernel, rfl⟩
theorem iL_law_506 : Ins mL_law 506 509 3 (.invokevirtual 47) := ⟨by decide +kernel, rfl⟩
theorem iL_law_509 : InB mL_law 509 512 1580 (.if_icmp .eq) := ⟨by decide +kernel, rfl⟩
theorem iL_law_512 : Ins mL_law 512 513 1 (.iconst 0) := ⟨by decide +kernel, rfl⟩
theorem iL_law_513 : Ins mL_law 513 514 1 (.ireturn) := ⟨by decide +kernel, rfl⟩
theorem iL_law_514 : Ins mL_law 514 515 1 (.aload_n 1) := ⟨by decide +kernel, rfl⟩
theorem iL_law_515 : Ins mL_law 515 516 1 (.aload_n 0) := ⟨by decide +kernel, rfl⟩
theorem iL_law_516 : Ins mL_law 516 517 1 (.iload_n 3) := ⟨by decide +kernel, rfl⟩
theorem iL_law_517 : Ins mL_law 517 518 1 (.iconst 1) := ⟨by decide +kernel, rfl⟩
theorem iL_law_518 : Ins mL_law 518 519 1 (.iadd) := ⟨by decide +kernel, rfl⟩
theorem iL_law_519 : Ins mL_law 519 520 1 (.iaload) := ⟨by decide +kernel, rfl⟩
theorem iL_law_520 : Ins mL_law 520 521 1 (.aload_n 0) := ⟨by decide +kernel, rfl⟩
theorem iL_law_521 : Ins mL_law 521 522 1 (.iload_n 3) := ⟨by decide +kernel, rfl⟩
theorem iL_law_522 : Ins mL_law 522 523 1 (.iconst 2) := ⟨by decide +kernel, rfl⟩
theorem iL_law_523 : Ins mL_law 523 524 1 (.iadd) := ⟨by decide +kernel, rfl⟩
theorem iL_law_524 : Ins mL_law 524 525 1 (.iaload) := ⟨by decide +kernel, rfl⟩
theorem iL_law_525 : Ins mL_law 525 528 3 (.invokevirtual 48) := ⟨by decide +kernel, rfl⟩
theorem iL_law_528 : Ins mL_law 528 529 1 (.aload_n 2) := ⟨by decide +kernel, rfl⟩
theorem iL_law_529 : Ins mL_law 529 530 1 (.aload_n 0) := ⟨by decide +kernel, rfl⟩
theorem iL_law_530 : Ins mL_law 530 531 1 (.iload_n 3) := ⟨by decide +kernel, rfl⟩
theorem iL_law_531 : Ins mL_law 531 532 1 (.iconst 1) := ⟨by decide +kernel, rfl⟩
theorem iL_law_532 : Ins mL_law 532 533 1 (.iadd) := ⟨by decide +kernel, rfl⟩
theorem iL_law_533 : Ins mL_law 533 534 1 (.iaload) := ⟨by decide +kernel, rfl⟩
theorem iL_law_534 : Ins mL_law 534 535 1 (.aload_n 0) := ⟨by decide +kernel, rfl⟩
theorem iL_law_535 : Ins mL_law 535 536 1 (.iload_n 3) := ⟨by decide +kernel, rfl⟩
theorem iL_law_536 : Ins mL_law 536 537 1 (.iconst 2) := ⟨by decide +kernel, rfl⟩
theorem iL_law_537 : Ins mL_law 537 538 1 (.iadd) := ⟨by decide +kernel, rfl⟩
theorem iL_law_538 : Ins mL_law 538 539 1 (.iaload) := ⟨by decide +kernel, rfl⟩
theorem iL_law_539 : Ins mL_law 539 542 3 (.invokevirtual 51) := ⟨by decide +kernel, rfl⟩
theorem iL_law_542 : InB mL_law 542 545 1580 (.if_icmp .eq) := ⟨by decide +kernel, rfl⟩
theorem iL_law_545 : Ins mL_law 545 546 1 (.iconst 0) := ⟨by decide +kernel, rfl⟩
theorem iL_law_546 : Ins mL_law 546 547 1 (.ireturn) := ⟨by decide +kernel, rfl⟩
theorem iL_law_547 : Ins mL_law 547 548 1 (.aload_n 1) := ⟨by decide +kernel, rfl⟩
theorem iL_law_548 : Ins mL_law 548 549 1 (.aload_n 0) := ⟨by decide +kernel, rfl⟩
theorem iL_law_549 : Ins mL_law 549 550 1 (.iload_n 3) := ⟨by decide +kernel, rfl⟩
theorem iL_law_550 : Ins mL_law 550 551 1 (.iconst 1) := ⟨by decide +kernel, rfl⟩
theorem iL_law_551 : Ins mL_law 551 552 1 (.iadd) := ⟨by decide +kernel, rfl⟩
theorem iL_law_552 : Ins mL_law 552 553 1 (.iaload) := ⟨by decide +kernel, rfl⟩
theorem iL_law_553 : Ins mL_law 553 554 1 (.aload_n 0) := ⟨by decide +kernel, rfl⟩
theorem iL_law_554 : Ins mL_law 554 555 1 (.iload_n 3) := ⟨by decide +kernel, rfl⟩
theorem iL_law_555 : Ins mL_law 555 556 1 (.iconst 2) := ⟨by decide +kernel, rfl⟩
theorem iL_law_556 : Ins mL_law 556 557 1 (.iadd) := ⟨by decide +kernel, rfl⟩
theorem iL_law_557 : Ins mL_law 557 558 1 (.iaload) := ⟨by decide +kernel, rfl⟩
theorem iL_law_558 : Ins mL_law 558 561 3 (.invokevirtual 52) := ⟨by decide +kernel, rfl⟩
theorem iL_law_561 : Ins mL_law 561 562 1 (.aload_n 2) := ⟨by decide +kernel, rfl⟩
theorem iL_law_562 : Ins mL_law 562 563 1 (.aload_n 0) := ⟨by decide +kernel, rfl⟩
theorem iL_law_563 : Ins mL_law 563 564 1 (.iload_n 3) := ⟨by decide +kernel, rfl⟩
theorem iL_law_564 : Ins mL_law 564 565 1 (.iconst 1) := ⟨by decide +kernel, rfl⟩
theorem iL_law_565 : Ins mL_law 565 566 1 (.iadd) := ⟨by decide +kernel, rfl⟩
theorem iL_law_566 : Ins mL_law 566 567 1 (.iaload) := ⟨by decide +kernel, rfl⟩
theorem iL_law_567 : Ins mL_law 567 568 1 (.aload_n 0) := ⟨by decide +kernel, rfl⟩
theorem iL_law_568 : Ins mL_law 568 569 1 (.iload_n 3) := ⟨by decide +kernel, rfl⟩
theorem iL_law_569 : Ins mL_law 569 570 1 (.iconst 2) := ⟨by decide +kernel, rfl⟩
theorem iL_law_570 : Ins mL_law 570 571 1 (.iadd) := ⟨by decide +kernel, rfl⟩
theorem iL_law_571 : Ins mL_law 571 572 1 (.iaload) := ⟨by decide +kernel, rfl⟩
theorem iL_law_572 : Ins mL_law 572 575 3 (.invokevirtual 55) := ⟨by decide +kernel, rfl⟩
theorem iL_law_575 : InB mL_law 575 578 1580 (.if_icmp .eq) := ⟨by decide +kernel, rfl⟩
theorem iL_law_578 : Ins mL_law 578 579 1 (.iconst 0) := ⟨by decide +kernel, rfl⟩
theorem iL_law_579 : Ins mL_law 579 580 1 (.ireturn) := ⟨by decide +kernel, rfl⟩
theorem iL_law_580 : Ins mL_law 580 581 1 (.aload_n 1) := ⟨by decide +kernel, rfl⟩
theorem iL_law_581 : Ins mL_law 581 582 1 (.aload_n 0) := ⟨by decide +kernel, rfl⟩
theorem iL_law_582 : Ins mL_law 582 583 1 (.iload_n 3) := ⟨by decide +kernel, rfl⟩
theorem iL_law_583 : Ins mL_law 583 584 1 (.iconst 1) := ⟨by decide +kernel, rfl⟩
theorem iL_law_584 : Ins mL_law 584 585 1 (.iadd) := ⟨by decide +kernel, rfl⟩
theorem iL_law_585 : Ins mL_law 585 586 1 (.iaload) := ⟨by decide +kernel, rfl⟩
theorem iL_law_586 : Ins mL_law 586 587 1 (.aload_n 0) := ⟨by decide +kernel, rfl⟩
theorem iL_law_587 : Ins mL_law 587 588 1 (.iload_n 3) := ⟨by decide +kernel, rfl⟩
theorem iL_law_588 : Ins mL_law 588 589 1 (.iconst 2) := ⟨by decide +kernel, rfl⟩
theorem iL_law_589 : Ins mL_law 589 590 1 (.iadd) := ⟨by decide +kernel, rfl⟩
theorem iL_law_590 : Ins mL_law 590 591 1 (.iaload) := ⟨by decide +kernel, rfl⟩
theorem iL_law_591 : Ins mL_law 591 594 3 (.invokevirtual 56) := ⟨by decide +kernel, rfl⟩
theorem iL_law_594 : Ins mL_law 594 595 1 (.aload_n 2) := ⟨by decide +kernel, rfl⟩
theorem iL_law_595 : Ins mL_law 595 596 1 (.aload_n 0) := ⟨by decide +kernel, rfl⟩
theorem iL_law_596 : Ins mL_law 596 597 1 (.iload_n 3) := ⟨by decide +kernel, rfl⟩
theorem iL_law_597 : Ins mL_law 597 598 1 (.iconst 1) := ⟨by decide +kernel, rfl⟩
theorem iL_law_598 : Ins mL_law 598 599 1 (.iadd) := ⟨by decide +kernel, rfl⟩
theorem iL_law_599 : Ins mL_law 599 600 1 (.iaload) := ⟨by decide +kernel, rfl⟩
theorem iL_law_600 : Ins mL_law 600 601 1 (.aload_n 0) := ⟨by decide +kernel, rfl⟩
theorem iL_law_601 : Ins mL_law 601 602 1 (.iload_n 3) := ⟨by decide +kernel, rfl⟩
theorem iL_law_602 : Ins mL_law 602 603 1 (.iconst 2) := ⟨by decide +kernel, rfl⟩
theorem iL_law_603 : Ins mL_law 603 604 1 (.iadd) := ⟨by decide +kernel, rfl⟩
theorem iL_law_604 : Ins mL_law 604 605 1 (.iaload) := ⟨by decide +kernel, rfl⟩
theorem iL_law_605 : Ins mL_law 605 608 3 (.invokevirtual 59) := ⟨by decide +kernel, rfl⟩
theorem iL_law_608 : InB mL_law 608 611 1580 (.if_icmp .eq) := ⟨by decide +kernel, rfl⟩
theorem iL_law_611 : Ins mL_law 611 612 1 (.iconst 0) := ⟨by decide +kernel, rfl⟩
theorem iL_law_612 : Ins mL_law 612 613 1 (.ireturn) := ⟨by decide +kernel, rfl⟩
theorem iL_law_613 : Ins mL_law 613 614 1 (.aload_n 1) := ⟨by decide +kernel, rfl⟩
theorem iL_law_614 : Ins mL_law 614 615 1 (.aload_n 0) := ⟨by decide +kernel, rfl⟩
theorem iL_law_615 : Ins mL_law 615 616 1 (.iload_n 3) := ⟨by decide +kernel, rfl⟩
theorem iL_law_616 : Ins mL_law 616 617 1 (.iconst 1) := ⟨by decide +kernel, rfl⟩
theorem iL_law_617 : Ins mL_law 617 618 1 (.iadd) := ⟨by decide +kernel, rfl⟩
theorem iL_law_618 : Ins mL_law 618 619 1 (.iaload) := ⟨by decide +kernel, rfl⟩
theorem iL_law_619 : Ins mL_law 619 622 3 (.invokevirtual 60) := ⟨by decide +kernel, rfl⟩
theorem iL_law_622 : Ins mL_law 622 623 1 (.aload_n 2) := ⟨by decide +kernel, rfl⟩
theorem iL_law_623 : Ins mL_law 623 624 1 (.aload_n 0) := ⟨by decide +kernel, rfl⟩
theorem iL_law_624 : Ins mL_law 624 625 1 (.iload_n 3) := ⟨by decide +kernel, rfl⟩
theorem iL_law_625 : Ins mL_law 625 626 1 (.iconst 1) := ⟨by decide +kernel, rfl⟩
theorem iL_law_626 : Ins mL_law 626 627 1 (.iadd) := ⟨by decide +kernel, rfl⟩
theorem iL_law_627 : Ins mL_law 627 628 1 (.iaload) := ⟨by decide +kernel, rfl⟩
theorem iL_law_628 : Ins mL_law 628 631 3 (.invokevirtual 63) := ⟨by decide +kernel, rfl⟩
theorem iL_law_631 : InB mL_law 631 634 1580 (.if_icmp .eq) := ⟨by decide +kernel, rfl⟩
theorem iL_law_634 : Ins mL_law 634 635 1 (.iconst 0) := ⟨by decide +kernel, rfl⟩
theorem iL_law_635 : Ins mL_law 635 636 1 (.ireturn) := ⟨by decide +kernel, rfl⟩
theorem iL_law_636 : Ins mL_law 636 637 1 (.aload_n 1) := ⟨by decide +kernel, rfl⟩
theorem iL_law_637 : Ins mL_law 637 638 1 (.aload_n 0) := ⟨by decide +kernel, rfl⟩
theorem iL_law_638 : Ins mL_law 638 639 1 (.iload_n 3) := ⟨by decide +kernel, rfl⟩
theorem iL_law_639 : Ins mL_law 639 640 1 (.iconst 1) := ⟨by decide +kernel, rfl⟩
theorem iL_law_640 : Ins mL_law 640 641 1 (.iadd) := ⟨by decide +kernel, rfl⟩
theorem iL_law_641 : Ins mL_law 641 642 1 (.iaload) := ⟨by decide +kernel, rfl⟩
theorem iL_law_642 : Ins mL_law 642 645 3 (.invokevirtual 64) := ⟨by decide +kernel, rfl⟩
theorem iL_law_645 : Ins mL_law 645 646 1 (.aload_n 2) := ⟨by decide +kernel, rfl⟩
theorem iL_law_646 : Ins mL_law 646 647 1 (.aload_n 0) := ⟨by decide +kernel, rfl⟩
theorem iL_law_647 : Ins mL_law 647 648 1 (.iload_n 3) := ⟨by decide +kernel, rfl⟩
theorem iL_law_648 : Ins mL_law 648 649 1 (.iconst 1) := ⟨by decide +kernel, rfl⟩
theorem iL_law_649 : Ins mL_law 649 650 1 (.iadd) := ⟨by decide +kernel, rfl⟩
theorem iL_law_650 : Ins mL_law 650 651 1 (.iaload) := ⟨by decide +kernel, rfl⟩
theorem iL_law_651 : Ins mL_law 651 654 3 (.invokevirtual 67) := ⟨by decide +kernel, rfl⟩
theorem iL_law_654 : InB mL_law 654 657 1580 (.if_icmp .eq) := ⟨by decide +kernel, rfl⟩
theorem iL_law_657 : Ins mL_law 657 658 1 (.iconst 0) := ⟨by decide +kernel, rfl⟩
theorem iL_law_658 : Ins mL_law 658 659 1 (.ireturn) := ⟨by decide +kernel, rfl⟩
theorem iL_law_659 : Ins mL_law 659 660 1 (.aload_n 1) := ⟨by decide +kernel, rfl⟩
theorem iL_law_660 : Ins mL_law 660 661 1 (.aload_n 0) := ⟨by decide +kernel, rfl⟩
theorem iL_law_661 : Ins mL_law 661 662 1 (.iload_n 3) := ⟨by decide +kernel, rfl⟩
theorem iL_law_662 : Ins mL_law 662 663 1 (.iconst 1) := ⟨by decide +kernel, rfl⟩
theorem iL_law_663 : Ins mL_law 663 664 1 (.iadd) := ⟨by decide +kernel, rfl⟩
theorem iL_law_664 : Ins mL_law 664 665 1 (.iaload) := ⟨by decide +kernel, rfl⟩
theorem iL_law_665 : Ins mL_law 665 666 1 (.aload_n 0) := ⟨by decide +kernel, rfl⟩
theorem iL_law_666 : Ins mL_law 666 667 1 (.iload_n 3) := ⟨by decide +kernel, rfl⟩
theorem iL_law_667 : Ins mL_law 667 668 1 (.iconst 2) := ⟨by decide +kernel, rfl⟩
theorem iL_law_668 : Ins mL_law 668 669 1 (.iadd) := ⟨by decide +kernel, rfl⟩
theorem iL_law_669 : Ins mL_law 669 670 1 (.iaload) := ⟨by decide +kernel, rfl⟩
theorem iL_law_670 : Ins mL_law 670 671 1 (.aload_n 0) := ⟨by decide +kernel, rfl⟩
theorem iL_law_671 : Ins mL_law 671 672 1 (.iload_n 3) := ⟨by decide +kernel, rfl⟩
theorem iL_law_672 : Ins mL_law 672 673 1 (.iconst 3) := ⟨by decide +kernel, rfl⟩
theorem iL_law_673 : Ins mL_law 673 674 1 (.iadd) := ⟨by decide +kernel, rfl⟩
theorem iL_law_674 : Ins mL_law 674 675 1 (.iaload) := ⟨by decide +kernel, rfl⟩
theorem iL_law_675 : Ins mL_law 675 678 3 (.invokevirtual 68) := ⟨by decide +kernel, rfl⟩
theorem iL_law_678 : Ins mL_law 678 679 1 (.aload_n 2) := ⟨by decide +kernel, rfl⟩
theorem iL_law_679 : Ins mL_law 679 680 1 (.aload_n 0) := ⟨by decide +kernel, rfl⟩
theorem iL_law_680 : Ins mL_law 680 681 1 (.iload_n 3) := ⟨by decide +kernel, rfl⟩
theorem iL_law_681 : Ins mL_law 681 682 1 (.iconst 1) := ⟨by decide +kernel, rfl⟩
theorem iL_law_682 : Ins mL_law 682 683 1 (.iadd) := ⟨by decide +kernel, rfl⟩
theorem iL_law_683 : Ins mL_law 683 684 1 (.iaload) := ⟨by decide +kernel, rfl⟩
theorem iL_law_684 : Ins mL_law 684 685 1 (.aload_n 0) := ⟨by decide +kernel, rfl⟩
theorem iL_law_685 : Ins mL_law 685 686 1 (.iload_n 3) := ⟨by decide +kernel, rfl⟩
theorem iL_law_686 : Ins mL_law 686 687 1 (.iconst 2) := ⟨by decide +kernel, rfl⟩
theorem iL_law_687 : Ins mL_law 687 688 1 (.iadd) := ⟨by decide +kernel, rfl⟩
theorem iL_law_688 : Ins mL_law 688 689 1 (.iaload) := ⟨by decide +kernel, rfl⟩
theorem iL_law_689 : Ins mL_law 689 690 1 (.aload_n 0) := ⟨by decide +kernel, rfl⟩
theorem iL_law_690 : Ins mL_law 690 691 1 (.iload_n 3) := ⟨by decide +kernel, rfl⟩
theorem iL_law_691 : Ins mL_law 691 692 1 (.iconst 3) := ⟨by decide +kernel, rfl⟩
theorem iL_law_692 : Ins mL_law 692 693 1 (.iadd) := ⟨by decide +kernel, rfl⟩
theorem iL_law_693 : Ins mL_law 693 694 1 (.iaload) := ⟨by decide +kernel, rfl⟩
theorem iL_law_694 : Ins mL_law 694 697 3 (.invokevirtual 71) := ⟨by decide +kernel, rfl⟩
theorem iL_law_697 : InB mL_law 697 700 1580 (.if_icmp .eq) := ⟨by decide +kernel, rfl⟩
theorem iL_law_700 : Ins mL_law 700 701 1 (.iconst 0) := ⟨by decide +kernel, rfl⟩
theorem iL_law_701 : Ins mL_law 701 702 1 (.ireturn) := ⟨by decide +kernel, rfl⟩
theorem iL_law_702 : Ins mL_law 702 703 1 (.aload_n 1) := ⟨by decide +kernel, rfl⟩
theorem iL_law_703 : Ins mL_law 703 704 1 (.aload_n 0) := ⟨by decide +kernel, rfl⟩
theorem iL_law_704 : Ins mL_law 704 705 1 (.iload_n 3) := ⟨by decide +kernel, rfl⟩
theorem iL_law_705 : Ins mL_law 705 706 1 (.iconst 1) := ⟨by decide +kernel, rfl⟩
theorem iL_law_706 : Ins mL_law 706 707 1 (.iadd) := ⟨by decide +kernel, rfl⟩
theorem iL_law_707 : Ins mL_law 707 708 1 (.iaload) := ⟨by decide +kernel, rfl⟩
theorem iL_law_708 : Ins mL_law 708 709 1 (.aload_n 0) := ⟨by decide +kernel, rfl⟩
theorem iL_law_709 : Ins mL_law 709 710 1 (.iload_n 3) := ⟨by decide +kernel, rfl⟩
theorem iL_law_710 : Ins mL_law 710 711 1 (.iconst 2) := ⟨by decide +kernel, rfl⟩
theorem iL_law_711 : Ins mL_law 711 712 1 (.iadd) := ⟨by decide +kernel, rfl⟩
theorem iL_law_712 : Ins mL_law 712 713 1 (.iaload) := ⟨by decide +kernel, rfl⟩
theorem iL_law_713 : Ins mL_law 713 716 3 (.invokevirtual 72) := ⟨by decide +kernel, rfl⟩
theorem iL_law_716 : Ins mL_law 716 717 1 (.aload_n 2) := ⟨by decide +kernel, rfl⟩
theorem iL_law_717 : Ins mL_law 717 718 1 (.aload_n 0) := ⟨by decide +kernel, rfl⟩
theorem iL_law_718 : Ins mL_law 718 719 1 (.iload_n 3) := ⟨by decide +kernel, rfl⟩
theorem iL_law_719 : Ins mL_law 719 720 1 (.iconst 1) := ⟨by decide +kernel, rfl⟩
theorem iL_law_720 : Ins mL_law 720 721 1 (.iadd) := ⟨by decide +kernel, rfl⟩
theorem iL_law_721 : Ins mL_law 721 722 1 (.iaload) := ⟨by decide +kernel, rfl⟩
theorem iL_law_722 : Ins mL_law 722 723 1 (.aload_n 0) := ⟨by decide +kernel, rfl⟩
theorem iL_law_723 : Ins mL_law 723 724 1 (.iload_n 3) := ⟨by decide +kernel, rfl⟩
theorem iL_law_724 : Ins mL_law 724 725 1 (.iconst 2) := ⟨by decide +kernel, rfl⟩
theorem iL_law_725 : Ins mL_law 725 726 1 (.iadd) := ⟨by decide +kernel, rfl⟩
theorem iL_law_726 : Ins mL_law 726 727 1 (.iaload) := ⟨by decide +kernel, rfl⟩
theorem iL_law_727 : Ins mL_law 727 730 3 (.invokevirtual 75) := ⟨by decide +kernel, rfl⟩
theorem iL_law_730 : InB mL_law 730 733 1580 (.if_icmp .eq) := ⟨by decide +kernel, rfl⟩
theorem iL_law_733 : Ins mL_law 733 734 1 (.iconst 0) := ⟨by decide +kernel, rfl⟩
theorem iL_law_734 : Ins mL_law 734 735 1 (.ireturn) := ⟨by decide +kernel, rfl⟩
theorem iL_law_735 : Ins mL_law 735 736 1 (.aload_n 1) := ⟨by decide +kernel, rfl⟩
theorem iL_law_736 : Ins mL_law 736 737 1 (.aload_n 0) := ⟨by decide +kernel, rfl⟩
theorem iL_law_737 : Ins mL_law 737 738 1 (.iload_n 3) := ⟨by decide +kernel, rfl⟩
theorem iL_law_738 : Ins mL_law 738 739 1 (.iconst 1) := ⟨by decide +kernel, rfl⟩
theorem iL_law_739 : Ins mL_law 739 740 1 (.iadd) := ⟨by decide +kernel, rfl⟩
theorem iL_law_740 : Ins mL_law 740 741 1 (.iaload) := ⟨by decide +kernel, rfl⟩
theorem iL_law_741 : Ins mL_law 741 742 1 (.aload_n 0) := ⟨by decide +kernel, rfl⟩
theorem iL_law_742 : Ins mL_law 742 743 1 (.iload_n 3) := ⟨by decide +kernel, rfl⟩
theorem iL_law_743 : Ins mL_law 743 744 1 (.iconst 2) := ⟨by decide +kernel, rfl⟩
theorem iL_law_744 : Ins mL_law 744 745 1 (.iadd) := ⟨by decide +kernel, rfl⟩
theorem iL_law_745 : Ins mL_law 745 746 1 (.iaload) := ⟨by decide +kernel, rfl⟩
theorem iL_law_746 : Ins mL_law 746 749 3 (.invokevirtual 76) := ⟨by decide +kernel, rfl⟩
theorem iL_law_749 : Ins mL_law 749 750 1 (.aload_n 2) := ⟨by decide +kernel, rfl⟩
theorem iL_law_750 : Ins mL_law 750 751 1 (.aload_n 0) := ⟨by decide +kernel, rfl⟩
theorem iL_law_751 : Ins mL_law 751 752 1 (.iload_n 3) := ⟨by decide +kernel, rfl⟩
theorem iL_law_752 : Ins mL_law 752 753 1 (.iconst 1) := ⟨by decide +kernel, rfl⟩
theorem iL_law_753 : Ins mL_law 753 754 1 (.iadd) := ⟨by decide +kernel, rfl⟩
theorem iL_law_754 : Ins mL_law 754 755 1 (.iaload) := ⟨by decide +kernel, rfl⟩
theorem iL_law_755 : Ins mL_law 755 756 1 (.aload_n 0) := ⟨by decide +kernel, rfl⟩
theorem iL_law_756 : Ins mL_law 756 757 1 (.iload_n 3) := ⟨by decide +kernel, rfl⟩
theorem iL_law_757 : Ins mL_law 757 758 1 (.iconst 2) := ⟨by decide +kernel, rfl⟩
theorem iL_law_758 : Ins mL_law 758 759 1 (.iadd) := ⟨by decide +kernel, rfl⟩
theorem iL_law_759 : Ins mL_law 759 760 1 (.iaload) := ⟨by decide +kernel, rfl⟩
theorem iL_law_760 : Ins mL_law 760 763 3 (.invokevirtual 79) := ⟨by decide +kernel, rfl⟩
theorem iL_law_763 : InB mL_law 763 766 1580 (.if_icmp .eq) := ⟨by decide +kernel, rfl⟩
theorem iL_law_766 : Ins mL_law 766 767 1 (.iconst 0) := ⟨by decide +kernel, rfl⟩
theorem iL_law_767 : Ins mL_law 767 768 1 (.ireturn) := ⟨by decide +kernel, rfl⟩
theorem iL_law_768 : Ins mL_law 768 769 1 (.aload_n 1) := ⟨by decide +kernel, rfl⟩
theorem iL_law_769 : Ins mL_law 769 770 1 (.aload_n 0) := ⟨by decide +kernel, rfl⟩
theorem iL_law_770 : Ins mL_law 770 771 1 (.iload_n 3) := ⟨by decide +kernel, rfl⟩
theorem iL_law_771 : Ins mL_law 771 772 1 (.iconst 1) := ⟨by decide +kernel, rfl⟩
theorem iL_law_772 : Ins mL_law 772 773 1 (.iadd) := ⟨by decide +kernel, rfl⟩
theorem iL_law_773 : Ins mL_law 773 774 1 (.iaload) := ⟨by decide +kernel, rfl⟩
theorem iL_law_774 : Ins mL_law 774 775 1 (.aload_n 0) := ⟨by decide +kernel, rfl⟩
theorem iL_law_775 : Ins mL_law 775 776 1 (.iload_n 3) := ⟨by decide +kernel, rfl⟩
theorem iL_law_776 : Ins mL_law 776 777 1 (.iconst 2) := ⟨by decide +kernel, rfl⟩
theorem iL_law_777 : Ins mL_law 777 778 1 (.iadd) := ⟨by decide +kernel, rfl⟩
theorem iL_law_778 : Ins mL_law 778 779 1 (.iaload) := ⟨by decide +kernel, rfl⟩
theorem iL_law_779 : Ins mL_law 779 782 3 (.invokevirtual 80) := ⟨by decide +kernel, rfl⟩
theorem iL_law_782 : Ins mL_law 782 783 1 (.aload_n 2) := ⟨by decide +kernel, rfl⟩
theorem iL_law_783 : Ins mL_law 783 784 1 (.aload_n 0) := ⟨by decide +kernel, rfl⟩
theorem iL_law_784 : Ins mL_law 784 785 1 (.iload_n 3) := ⟨by decide +kernel, rfl⟩
theorem iL_law_785 : Ins mL_law 785 786 1 (.iconst 1) := ⟨by decide +kernel, rfl⟩
theorem iL_law_786 : Ins mL_law 786 787 1 (.iadd) := ⟨by decide +kernel, rfl⟩
theorem iL_law_787 : Ins mL_law 787 788 1 (.iaload) := ⟨by decide +kernel, rfl⟩
theorem iL_law_788 : Ins mL_law 788 789 1 (.aload_n 0) := ⟨by decide +kernel, rfl⟩
theorem iL_law_789 : Ins mL_law 789 790 1 (.iload_n 3) := ⟨by decide +kernel, rfl⟩
theorem iL_law_790 : Ins mL_law 790 791 1 (.iconst 2) := ⟨by decide +kernel, rfl⟩
theorem iL_law_791 : Ins mL_law 791 792 1 (.iadd) := ⟨by decide +kernel, rfl⟩
theorem iL_law_792 : Ins mL_law 792 793 1 (.iaload) := ⟨by decide +kernel, rfl⟩
theorem iL_law_793 : Ins mL_law 793 796 3 (.invokevirtual 83) := ⟨by decide +kernel, rfl⟩
theorem iL_law_796 : InB mL_law 796 799 1580 (.if_icmp .eq) := ⟨by decide +kernel, rfl⟩
theorem iL_law_799 : Ins mL_law 799 800 1 (.iconst 0) := ⟨by decide +kernel, rfl⟩
theorem iL_law_800 : Ins mL_law 800 801 1 (.ireturn) := ⟨by decide +kernel, rfl⟩
theorem iL_law_801 : Ins mL_law 801 802 1 (.aload_n 1) := ⟨by decide +kernel, rfl⟩
theorem iL_law_802 : Ins mL_law 802 803 1 (.aload_n 0) := ⟨by decide +kernel, rfl⟩
theorem iL_law_803 : Ins mL_law 803 804 1 (.iload_n 3) := ⟨by decide +kernel, rfl⟩
theorem iL_law_804 : Ins mL_law 804 805 1 (.iconst 1) := ⟨by decide +kernel, rfl⟩
theorem iL_law_805 : Ins mL_law 805 806 1 (.iadd) := ⟨by decide +kernel, rfl⟩
theorem iL_law_806 : Ins mL_law 806 807 1 (.iaload) := ⟨by decide +kernel, rfl⟩
theorem iL_law_807 : Ins mL_law 807 810 3 (.invokevirtual 84) := ⟨by decide +kernel, rfl⟩
theorem iL_law_810 : Ins mL_law 810 811 1 (.aload_n 2) := ⟨by decide +kernel, rfl⟩
theorem iL_law_811 : Ins mL_law 811 812 1 (.aload_n 0) := ⟨by decide +kernel, rfl⟩
theorem iL_law_812 : Ins mL_law 812 813 1 (.iload_n 3) := ⟨by decide +kernel, rfl⟩
theorem iL_law_813 : Ins mL_law 813 814 1 (.iconst 1) := ⟨by decide +kernel, rfl⟩
theorem iL_law_814 : Ins mL_law 814 815 1 (.iadd) := ⟨by decide +kernel, rfl⟩
theorem iL_law_815 : Ins mL_law 815 816 1 (.iaload) := ⟨by decide +kernel, rfl⟩
theorem iL_law_816 : Ins mL_law 816 819 3 (.invokevirtual 87) := ⟨by decide +kernel, rfl⟩
theorem iL_law_819 : InB mL_law 819 822 1580 (.if_icmp .eq) := ⟨by decide +kernel, rfl⟩
theorem iL_law_822 : Ins mL_law 822 823 1 (.iconst 0) := ⟨by decide +kernel, rfl⟩
theorem iL_law_823 : Ins mL_law 823 824 1 (.ireturn) := ⟨by decide +kernel, rfl⟩
theorem iL_law_824 : Ins mL_law 824 825 1 (.aload_n 1) := ⟨by decide +kernel, rfl⟩
theorem iL_law_825 : Ins mL_law 825 826 1 (.aload_n 0) := ⟨by decide +kernel, rfl⟩
theorem iL_law_826 : Ins mL_law 826 827 1 (.iload_n 3) := ⟨by decide +kernel, rfl⟩
theorem iL_law_827 : Ins mL_law 827 828 1 (.iconst 1) := ⟨by decide +kernel, rfl⟩
theorem iL_law_828 : Ins mL_law 828 829 1 (.iadd) := ⟨by decide +kernel, rfl⟩
theorem iL_law_829 : Ins mL_law 829 830 1 (.iaload) := ⟨by decide +kernel, rfl⟩
theorem iL_law_830 : Ins mL_law 830 831 1 (.aload_n 0) := ⟨by decide +kernel, rfl⟩
theorem iL_law_831 : Ins mL_law 831 832 1 (.iload_n 3) := ⟨by decide +kernel, rfl⟩
theorem iL_law_832 : Ins mL_law 832 833 1 (.iconst 2) := ⟨by decide +kernel, rfl⟩
theorem iL_law_833 : Ins mL_law 833 834 1 (.iadd) := ⟨by decide +kernel, rfl⟩
theorem iL_law_834 : Ins mL_law 834 835 1 (.iaload) := ⟨by decide +kernel, rfl⟩
theorem iL_law_835 : Ins mL_law 835 838 3 (.invokevirtual 88) := ⟨by decide +kernel, rfl⟩
theorem iL_law_838 : Ins mL_law 838 839 1 (.aload_n 2) := ⟨by decide +kernel, rfl⟩
theorem iL_law_839 : Ins mL_law 839 840 1 (.aload_n 0) := ⟨by decide +kernel, rfl⟩
theorem iL_law_840 : Ins mL_law 840 841 1 (.iload_n 3) := ⟨by decide +kernel, rfl⟩
theorem iL_law_841 : Ins mL_law 841 842 1 (.iconst 1) := ⟨by decide +kernel, rfl⟩
theorem iL_law_842 : Ins mL_law 842 843 1 (.iadd) := ⟨by decide +kernel, rfl⟩
theorem iL_law_843 : Ins mL_law 843 844 1 (.iaload) := ⟨by decide +kernel, rfl⟩
theorem iL_law_844 : Ins mL_law 844 845 1 (.aload_n 0) := ⟨by decide +kernel, rfl⟩
theorem iL_law_845 : Ins mL_law 845 846 1 (.iload_n 3) := ⟨by decide +kernel, rfl⟩
theorem iL_law_846 : Ins mL_law 846 847 1 (.iconst 2) := ⟨by decide +kernel, rfl⟩
theorem iL_law_847 : Ins mL_law 847 848 1 (.iadd) := ⟨by decide +kernel, rfl⟩
theorem iL_law_848 : Ins mL_law 848 849 1 (.iaload) := ⟨by decide +kernel, rfl⟩
theorem iL_law_849 : Ins mL_law 849 852 3 (.invokevirtual 91) := ⟨by decide +kernel, rfl⟩
theorem iL_law_852 : InB mL_law 852 855 1580 (.if_icmp .eq) := ⟨by decide +kernel, rfl⟩
theorem iL_law_855 : Ins mL_law 855 856 1 (.iconst 0) := ⟨by decide +kernel, rfl⟩
theorem iL_law_856 : Ins mL_law 856 857 1 (.ireturn) := ⟨by decide +kernel, rfl⟩
theorem iL_law_857 : Ins mL_law 857 858 1 (.aload_n 1) := ⟨by decide +kernel, rfl⟩
theorem iL_law_858 : Ins mL_law 858 859 1 (.aload_n 0) := ⟨by decide +kernel, rfl⟩
theorem iL_law_859 : Ins mL_law 859 860 1 (.iload_n 3) := ⟨by decide +kernel, rfl⟩
theorem iL_law_860 : Ins mL_law 860 861 1 (.iconst 1) := ⟨by decide +kernel, rfl⟩
theorem iL_law_861 : Ins mL_law 861 862 1 (.iadd) := ⟨by decide +kernel, rfl⟩
theorem iL_law_862 : Ins mL_law 862 863 1 (.iaload) := ⟨by decide +kernel, rfl⟩
theorem iL_law_863 : Ins mL_law 863 864 1 (.aload_n 0) := ⟨by decide +kernel, rfl⟩
theorem iL_law_864 : Ins mL_law 864 865 1 (.iload_n 3) := ⟨by decide +kernel, rfl⟩
theorem iL_law_865 : Ins mL_law 865 866 1 (.iconst 2) := ⟨by decide +kernel, rfl⟩
theorem iL_law_866 : Ins mL_law 866 867 1 (.iadd) := ⟨by decide +kernel, rfl⟩
theorem iL_law_867 : Ins mL_law 867 868 1 (.iaload) := ⟨by decide +kernel, rfl⟩
theorem iL_law_868 : Ins mL_law 868 871 3 (.invokevirtual 92) := ⟨by decide +kernel, rfl⟩
theorem iL_law_871 : Ins mL_law 871 872 1 (.aload_n 2) := ⟨by decide +kernel, rfl⟩
theorem iL_law_872 : Ins mL_law 872 873 1 (.aload_n 0) := ⟨by decide +kernel, rfl⟩
theorem iL_law_873 : Ins mL_law 873 874 1 (.iload_n 3) := ⟨by decide +kernel, rfl⟩
theorem iL_law_874 : Ins mL_law 874 875 1 (.iconst 1) := ⟨by decide +kernel, rfl⟩
theorem iL_law_875 : Ins mL_law 875 876 1 (.iadd) := ⟨by decide +kernel, rfl⟩
theorem iL_law_876 : Ins mL_law 876 877 1 (.iaload) := ⟨by decide +kernel, rfl⟩
theorem iL_law_877 : Ins mL_law 877 878 1 (.aload_n 0) := ⟨by decide +kernel, rfl⟩
theorem iL_law_878 : Ins mL_law 878 879 1 (.iload_n 3) := ⟨by decide +kernel, rfl⟩
theorem iL_law_879 : Ins mL_law 879 880 1 (.iconst 2) := ⟨by decide +kernel, rfl⟩
theorem iL_law_880 : Ins mL_law 880 881 1 (.iadd) := ⟨by decide +kernel, rfl⟩
theorem iL_law_881 : Ins mL_law 881 882 1 (.iaload) := ⟨by decide +kernel, rfl⟩
theorem iL_law_882 : Ins mL_law 882 885 3 (.invokevirtual 95) := ⟨by decide +kernel, rfl⟩
theorem iL_law_885 : InB mL_law 885 888 1580 (.if_icmp .eq) := ⟨by decide +kernel, rfl⟩
theorem iL_law_888 : Ins mL_law 888 889 1 (.iconst 0) := ⟨by decide +kernel, rfl⟩
theorem iL_law_889 : Ins mL_law 889 890 1 (.ireturn) := ⟨by decide +kernel, rfl⟩
theorem iL_law_890 : Ins mL_law 890 891 1 (.aload_n 1) := ⟨by decide +kernel, rfl⟩
theorem iL_law_891 : Ins mL_law 891 892 1 (.aload_n 0) := ⟨by decide +kernel, rfl⟩
theorem iL_law_892 : Ins mL_law 892 893 1 (.iload_n 3) := ⟨by decide +kernel, rfl⟩
theorem iL_law_893 : Ins mL_law 893 894 1 (.iconst 1) := ⟨by decide +kernel, rfl⟩
theorem iL_law_894 : Ins mL_law 894 895 1 (.iadd) := ⟨by decide +kernel, rfl⟩
theorem iL_law_895 : Ins mL_law 895 896 1 (.iaload) := ⟨by decide +kernel, rfl⟩
theorem iL_law_896 : Ins mL_law 896 897 1 (.aload_n 0) := ⟨by decide +kernel, rfl⟩
theorem iL_law_897 : Ins mL_law 897 898 1 (.iload_n 3) := ⟨by decide +kernel, rfl⟩
theorem iL_law_898 : Ins mL_law 898 899 1 (.iconst 2) := ⟨by decide +kernel, rfl⟩
theorem iL_law_899 : Ins mL_law 899 900 1 (.iadd) := ⟨by decide +kernel, rfl⟩
theorem iL_law_900 : Ins mL_law 900 901 1 (.iaload) := ⟨by decide +kernel, rfl⟩
theorem iL_law_901 : Ins mL_law 901 902 1 (.aload_n 0) := ⟨by decide +kernel, rfl⟩
theorem iL_law_902 : Ins mL_law 902 903 1 (.iload_n 3) := ⟨by decide +kernel, rfl⟩
theorem iL_law_903 : Ins mL_law 903 904 1 (.iconst 3) := ⟨by decide +kernel, rfl⟩
theorem iL_law_904 : Ins mL_law 904 905 1 (.iadd) := ⟨by decide +kernel, rfl⟩
theorem iL_law_905 : Ins mL_law 905 906 1 (.iaload) := ⟨by decide +kernel, rfl⟩
theorem iL_law_906 : Ins mL_law 906 909 3 (.invokevirtual 96) := ⟨by decide +kernel, rfl⟩
theorem iL_law_909 : Ins mL_law 909 910 1 (.aload_n 2) := ⟨by decide +kernel, rfl⟩
theorem iL_law_910 : Ins mL_law 910 911 1 (.aload_n 0) := ⟨by decide +kernel, rfl⟩
theorem iL_law_911 : Ins mL_law 911 912 1 (.iload_n 3) := ⟨by decide +kernel, rfl⟩
theorem iL_law_912 : Ins mL_law 912 913 1 (.iconst 1) := ⟨by decide +kernel, rfl⟩
theorem iL_law_913 : Ins mL_law 913 914 1 (.iadd) := ⟨by decide +kernel, rfl⟩
theorem iL_law_914 : Ins mL_law 914 915 1 (.iaload) := ⟨by decide +kernel, rfl⟩
theorem iL_law_915 : Ins mL_law 915 916 1 (.aload_n 0) := ⟨by decide +kernel, rfl⟩
theorem iL_law_916 : Ins mL_law 916 917 1 (.iload_n 3) := ⟨by decide +kernel, rfl⟩
theorem iL_law_917 : Ins mL_law 917 918 1 (.iconst 2) := ⟨by decide +kernel, rfl⟩
theorem iL_law_918 : Ins mL_law 918 919 1 (.iadd) := ⟨by decide +kernel, rfl⟩
theorem iL_law_919 : Ins mL_law 919 920 1 (.iaload) := ⟨by decide +kernel, rfl⟩
theorem iL_law_920 : Ins mL_law 920 921 1 (.aload_n 0) := ⟨by decide +kernel, rfl⟩
theorem iL_law_921 : Ins mL_law 921 922 1 (.iload_n 3) := ⟨by decide +kernel, rfl⟩
theorem iL_law_922 : Ins mL_law 922 923 1 (.iconst 3) := ⟨by decide +kernel, rfl⟩
theorem iL_law_923 : Ins mL_law 923 924 1 (.iadd) := ⟨by decide +kernel, rfl⟩
theorem iL_law_924 : Ins mL_law 924 925 1 (.iaload) := ⟨by decide +kernel, rfl⟩
theorem iL_law_925 : Ins mL_law 925 928 3 (.invokevirtual 99) := ⟨by decide +kernel, rfl⟩
theorem iL_law_928 : InB mL_law 928 931 1580 (.if_icmp .eq) := ⟨by decide +kernel, rfl⟩
theorem iL_law_931 : Ins mL_law 931 932 1 (.iconst 0) := ⟨by decide +kernel, rfl⟩
theorem iL_law_932 : Ins mL_law 932 933 1 (.ireturn) := ⟨by decide +kernel, rfl⟩
theorem iL_law_933 : Ins mL_law 933 934 1 (.aload_n 1) := ⟨by decide +kernel, rfl⟩
theorem iL_law_934 : Ins mL_law 934 935 1 (.aload_n 0) := ⟨by decide +kernel, rfl⟩
theorem iL_law_935 : Ins mL_law 935 936 1 (.iload_n 3) := ⟨by decide +kernel, rfl⟩
theorem iL_law_936 : Ins mL_law 936 937 1 (.iconst 1) := ⟨by decide +kernel, rfl⟩
theorem iL_law_937 : Ins mL_law 937 938 1 (.iadd) := ⟨by decide +kernel, rfl⟩
theorem iL_law_938 : Ins mL_law 938 939 1 (.iaload) := ⟨by decide +kernel, rfl⟩
theorem iL_law_939 : Ins mL_law 939 940 1 (.aload_n 0) := ⟨by decide +kernel, rfl⟩
theorem iL_law_940 : Ins mL_law 940 941 1 (.iload_n 3) := ⟨by decide +kernel, rfl⟩
theorem iL_law_941 : Ins mL_law 941 942 1 (.iconst 2) := ⟨by decide +kernel, rfl⟩
theorem iL_law_942 : Ins mL_law 942 943 1 (.iadd) := ⟨by decide +kernel, rfl⟩
theorem iL_law_943 : Ins mL_law 943 944 1 (.iaload) := ⟨by decide +kernel, rfl⟩
theorem iL_law_944 : Ins mL_law 944 947 3 (.invokevirtual 100) := ⟨by decide +kernel, rfl⟩
theorem iL_law_947 : Ins mL_law 947 948 1 (.aload_n 2) := ⟨by decide +kernel, rfl⟩
theorem iL_law_948 : Ins mL_law 948 949 1 (.aload_n 0) := ⟨by decide +kernel, rfl⟩
theorem iL_law_949 : Ins mL_law 949 950 1 (.iload_n 3) := ⟨by decide +kernel, rfl⟩
theorem iL_law_950 : Ins mL_law 950 951 1 (.iconst 1) := ⟨by decide +kernel, rfl⟩
theorem iL_law_951 : Ins mL_law 951 952 1 (.iadd) := ⟨by decide +kernel, rfl⟩
theorem iL_law_952 : Ins mL_law 952 953 1 (.iaload) := ⟨by decide +kernel, rfl⟩
theorem iL_law_953 : Ins mL_law 953 954 1 (.aload_n 0) := ⟨by decide +kernel, rfl⟩
theorem iL_law_954 : Ins mL_law 954 955 1 (.iload_n 3) := ⟨by decide +kernel, rfl⟩
theorem iL_law_955 : Ins mL_law 955 956 1 (.iconst 2) := ⟨by decide +kernel, rfl⟩
theorem iL_law_956 : Ins mL_law 956 957 1 (.iadd) := ⟨by decide +kernel, rfl⟩
theorem iL_law_957 : Ins mL_law 957 958 1 (.iaload) := ⟨by decide +kernel, rfl⟩
theorem iL_law_958 : Ins mL_law 958 961 3 (.invokevirtual 103) := ⟨by decide +kernel, rfl⟩
theorem iL_law_961 : InB mL_law 961 964 1580 (.if_icmp .eq) := ⟨by decide +kernel, rfl⟩
theorem iL_law_964 : Ins mL_law 964 965 1 (.iconst 0) := ⟨by decide +kernel, rfl⟩
theorem iL_law_965 : Ins mL_law 965 966 1 (.ireturn) := ⟨by decide +kernel, rfl⟩
theorem iL_law_966 : Ins mL_law 966 967 1 (.aload_n 1) := ⟨by decide +kernel, rfl⟩
theorem iL_law_967 : Ins mL_law 967 968 1 (.aload_n 0) := ⟨by decide +kernel, rfl⟩
theorem iL_law_968 : Ins mL_law 968 969 1 (.iload_n 3) := ⟨by decide +kernel, rfl⟩
theorem iL_law_969 : Ins mL_law 969 970 1 (.iconst 1) := ⟨by decide +kernel, rfl⟩
theorem iL_law_970 : Ins mL_law 970 971 1 (.iadd) := ⟨by decide +kernel, rfl⟩
theorem iL_law_971 : Ins mL_law 971 972 1 (.iaload) := ⟨by decide +kernel, rfl⟩
theorem iL_law_972 : Ins mL_law 972 973 1 (.aload_n 0) := ⟨by decide +kernel, rfl⟩
theorem iL_law_973 : Ins mL_law 973 974 1 (.iload_n 3) := ⟨by decide +kernel, rfl⟩
theorem iL_law_974 : Ins mL_law 974 975 1 (.iconst 2) := ⟨by decide +kernel, rfl⟩
theorem iL_law_975 : Ins mL_law 975 976 1 (.iadd) := ⟨by decide +kernel, rfl⟩
theorem iL_law_976 : Ins mL_law 976 977 1 (.iaload) := ⟨by decide +kernel, rfl⟩
theorem iL_law_977 : Ins mL_law 977 978 1 (.aload_n 0) := ⟨by decide +kernel, rfl⟩
theorem iL_law_978 : Ins mL_law 978 979 1 (.iload_n 3) := ⟨by decide +kernel, rfl⟩
theorem iL_law_979 : Ins mL_law 979 980 1 (.iconst 3) := ⟨by decide +kernel, rfl⟩
theorem iL_law_980 : Ins mL_law 980 981 1 (.iadd) := ⟨by decide +kernel, rfl⟩
theorem iL_law_981 : Ins mL_law 981 982 1 (.iaload) := ⟨by decide +kernel, rfl⟩
theorem iL_law_982 : Ins mL_law 982 985 3 (.invokevirtual 104) := ⟨by decide +kernel, rfl⟩
theorem iL_law_985 : Ins mL_law 985 986 1 (.aload_n 2) := ⟨by decide +kernel, rfl⟩
theorem iL_law_986 : Ins mL_law 986 987 1 (.aload_n 0) := ⟨by decide +kernel, rfl⟩
theorem iL_law_987 : Ins mL_law 987 988 1 (.iload_n 3) := ⟨by decide +kernel, rfl⟩
theorem iL_law_988 : Ins mL_law 988 989 1 (.iconst 1) := ⟨by decide +kernel, rfl⟩
theorem iL_law_989 : Ins mL_law 989 990 1 (.iadd) := ⟨by decide +kernel, rfl⟩
theorem iL_law_990 : Ins mL_law 990 991 1 (.iaload) := ⟨by decide +kernel, rfl⟩
theorem iL_law_991 : Ins mL_law 991 992 1 (.aload_n 0) := ⟨by decide +kernel, rfl⟩
theorem iL_law_992 : Ins mL_law 992 993 1 (.iload_n 3) := ⟨by decide +kernel, rfl⟩
theorem iL_law_993 : Ins mL_law 993 994 1 (.iconst 2) := ⟨by decide +kernel, rfl⟩
theorem iL_law_994 : Ins mL_law 994 995 1 (.iadd) := ⟨by decide +kernel, rfl⟩
theorem iL_law_995 : Ins mL_law 995 996 1 (.iaload) := ⟨by decide +kernel, rfl⟩
theorem iL_law_996 : Ins mL_law 996 997 1 (.aload_n 0) := ⟨by decide +kernel, rfl⟩
theorem iL_law_997 : Ins mL_law 997 998 1 (.iload_n 3) := ⟨by decide +kernel, rfl⟩
theorem iL_law_998 : Ins mL_law 998 999 1 (.iconst 3) := ⟨by decide +kernel, rfl⟩
theorem iL_law_999 : Ins mL_law 999 1000 1 (.iadd) := ⟨by decide +kernel, rfl⟩
theorem iL_law_1000 : Ins mL_law 1000 1001 1 (.iaload) := ⟨by decide +kernel, rfl⟩
theorem iL_law_1001 : Ins mL_law 1001 1004 3 (.invokevirtual 107) := ⟨by decide +kernel, rfl⟩
theorem iL_law_1004 : InB mL_law 1004 1007 1580 (.if_icmp .eq) := ⟨by decide +kernel, rfl⟩
theorem iL_law_1007 : Ins mL_law 1007 1008 1 (.iconst 0) := ⟨by decide +kernel, rfl⟩
theorem iL_law_1008 : Ins mL_law 1008 1009 1 (.ireturn) := ⟨by decide +kernel, rfl⟩
theorem iL_law_1009 : Ins mL_law 1009 1010 1 (.aload_n 1) := ⟨by decide +kernel, rfl⟩
theorem iL_law_1010 : Ins mL_law 1010 1011 1 (.aload_n 0) := ⟨by decide +kernel, rfl⟩
theorem iL_law_1011 : Ins mL_law 1011 1012 1 (.iload_n 3) := ⟨by decide +kernel, rfl⟩
theorem iL_law_1012 : Ins mL_law 1012 1013 1 (.iconst 1) := ⟨by decide +kernel, rfl⟩
theorem iL_law_1013 : Ins mL_law 1013 1014 1 (.iadd) := ⟨by decide +kernel, rfl⟩
theorem iL_law_1014 : Ins mL_law 1014 1015 1 (.iaload) := ⟨by decide +kernel, rfl⟩
theorem iL_law_1015 : Ins mL_law 1015 1016 1 (.aload_n 0) := ⟨by decide +kernel, rfl⟩
theorem iL_law_1016 : Ins mL_law 1016 1017 1 (.iload_n 3) := ⟨by decide +kernel, rfl⟩
theorem iL_law_1017 : Ins mL_law 1017 1018 1 (.iconst 2) := ⟨by decide +kernel, rfl⟩
theorem iL_law_1018 : Ins mL_law 1018 1019 1 (.iadd) := ⟨by decide +kernel, rfl⟩
theorem iL_law_1019 : Ins mL_law 1019 1020 1 (.iaload) := ⟨by decide +kernel, rfl⟩
theorem iL_law_1020 : Ins mL_law 1020 1023 3 (.invokevirtual 108) := ⟨by decide +kernel, rfl⟩
theorem iL_law_1023 : Ins mL_law 1023 1024 1 (.aload_n 2) := ⟨by decide +kernel, rfl⟩
theorem iL_law_1024 : Ins mL_law 1024 1025 1 (.aload_n 0) := ⟨by decide +kernel, rfl⟩
theorem iL_law_1025 : Ins mL_law 1025 1026 1 (.iload_n 3) := ⟨by decide +kernel, rfl⟩
theorem iL_law_1026 : Ins mL_law 1026 1027 1 (.iconst 1) := ⟨by decide +kernel, rfl⟩
theorem iL_law_1027 : Ins mL_law 1027 1028 1 (.iadd) := ⟨by decide +kernel, rfl⟩
theorem iL_law_1028 : Ins mL_law 1028 1029 1 (.iaload) := ⟨by decide +kernel, rfl⟩
theorem iL_law_1029 : Ins mL_law 1029 1030 1 (.aload_n 0) := ⟨by decide +kernel, rfl⟩
theorem iL_law_1030 : Ins mL_law 1030 1031 1 (.iload_n 3) := ⟨by decide +kernel, rfl⟩
theorem iL_law_1031 : Ins mL_law 1031 1032 1 (.iconst 2) := ⟨by decide +kernel, rfl⟩
theorem iL_law_1032 : Ins mL_law 1032 1033 1 (.iadd) := ⟨by decide +kernel, rfl⟩
theorem iL_law_1033 : Ins mL_law 1033 1034 1 (.iaload) := ⟨by decide +kernel, rfl⟩
theorem iL_law_1034 : Ins mL_law 1034 1037 3 (.invokevirtual 111) := ⟨by decide +kernel, rfl⟩
theorem iL_law_1037 : InB mL_law 1037 1040 1580 (.if_icmp .eq) := ⟨by decide +kernel, rfl⟩
theorem iL_law_1040 : Ins mL_law 1040 1041 1 (.iconst 0) := ⟨by decide +kernel, rfl⟩
theorem iL_law_1041 : Ins mL_law 1041 1042 1 (.ireturn) := ⟨by decide +kernel, rfl⟩
theorem iL_law_1042 : Ins mL_law 1042 1043 1 (.aload_n 1) := ⟨by decide +kernel, rfl⟩
theorem iL_law_1043 : Ins mL_law 1043 1044 1 (.aload_n 0) := ⟨by decide +kernel, rfl⟩
theorem iL_law_1044 : Ins mL_law 1044 1045 1 (.iload_n 3) := ⟨by decide +kernel, rfl⟩
theorem iL_law_1045 : Ins mL_law 1045 1046 1 (.iconst 1) := ⟨by decide +kernel, rfl⟩
theorem iL_law_1046 : Ins mL_law 1046 1047 1 (.iadd) := ⟨by decide +kernel, rfl⟩
theorem iL_law_1047 : Ins mL_law 1047 1048 1 (.iaload) := ⟨by decide +kernel, rfl⟩
theorem iL_law_1048 : Ins mL_law 1048 1049 1 (.aload_n 0) := ⟨by decide +kernel, rfl⟩
theorem iL_law_1049 : Ins mL_law 1049 1050 1 (.iload_n 3) := ⟨by decide +kernel, rfl⟩
theorem iL_law_1050 : Ins mL_law 1050 1051 1 (.iconst 2) := ⟨by decide +kernel, rfl⟩
theorem iL_law_1051 : Ins mL_law 1051 1052 1 (.iadd) := ⟨by decide +kernel, rfl⟩
theorem iL_law_1052 : Ins mL_law 1052 1053 1 (.iaload) := ⟨by decide +kernel, rfl⟩
theorem iL_law_1053 : Ins mL_law 1053 1056 3 (.invokevirtual 112) := ⟨by decide +kernel, rfl⟩
theorem iL_law_1056 : Ins mL_law 1056 1057 1 (.aload_n 2) := ⟨by decide +kernel, rfl⟩
theorem iL_law_1057 : Ins mL_law 1057 1058 1 (.aload_n 0) := ⟨by decide +kernel, rfl⟩
theorem iL_law_1058 : Ins mL_law 1058 1059 1 (.iload_n 3) := ⟨by decide +kernel, rfl⟩
theorem iL_law_1059 : Ins mL_law 1059 1060 1 (.iconst 1) := ⟨by decide +kernel, rfl⟩
theorem iL_law_1060 : Ins mL_law 1060 1061 1 (.iadd) := ⟨by decide +kernel, rfl⟩
theorem iL_law_1061 : Ins mL_law 1061 1062 1 (.iaload) := ⟨by decide +kernel, rfl⟩
theorem iL_law_1062 : Ins mL_law 1062 1063 1 (.aload_n 0) := ⟨by decide +kernel, rfl⟩
theorem iL_law_1063 : Ins mL_law 1063 1064 1 (.iload_n 3) := ⟨by decide +kernel, rfl⟩
theorem iL_law_1064 : Ins mL_law 1064 1065 1 (.iconst 2) := ⟨by decide +kernel, rfl⟩
theorem iL_law_1065 : Ins mL_law 1065 1066 1 (.iadd) := ⟨by decide +kernel, rfl⟩
theorem iL_law_1066 : Ins mL_law 1066 1067 1 (.iaload) := ⟨by decide +kernel, rfl⟩
theorem iL_law_1067 : Ins mL_law 1067 1070 3 (.invokevirtual 115) := ⟨by decide +kernel, rfl⟩
theorem iL_law_1070 : InB mL_law 1070 1073 1580 (.if_icmp .eq) := ⟨by decide +kernel, rfl⟩
theorem iL_law_1073 : Ins mL_law 1073 1074 1 (.iconst 0) := ⟨by decide +kernel, rfl⟩
theorem iL_law_1074 : Ins mL_law 1074 1075 1 (.ireturn) := ⟨by decide +kernel, rfl⟩
theorem iL_law_1075 : Ins mL_law 1075 1076 1 (.aload_n 1) := ⟨by decide +kernel, rfl⟩
theorem iL_law_1076 : Ins mL_law 1076 1077 1 (.aload_n 0) := ⟨by decide +kernel, rfl⟩
theorem iL_law_1077 : Ins mL_law 1077 1078 1 (.iload_n 3) := ⟨by decide +kernel, rfl⟩
theorem iL_law_1078 : Ins mL_law 1078 1079 1 (.iconst 1) := ⟨by decide +kernel, rfl⟩
theorem iL_law_1079 : Ins mL_law 1079 1080 1 (.iadd) := ⟨by decide +kernel, rfl⟩
theorem iL_law_1080 : Ins mL_law 1080 1081 1 (.iaload) := ⟨by decide +kernel, rfl⟩
theorem iL_law_1081 : Ins mL_law 1081 1084 3 (.invokevirtual 116) := ⟨by decide +kernel, rfl⟩
theorem iL_law_1084 : Ins mL_law 1084 1085 1 (.aload_n 2) := ⟨by decide +kernel, rfl⟩
theorem iL_law_1085 : Ins mL_law 1085 1086 1 (.aload_n 0) := ⟨by decide +kernel, rfl⟩
theorem iL_law_1086 : Ins mL_law 1086 1087 1 (.iload_n 3) := ⟨by decide +kernel, rfl⟩
theorem iL_law_1087 : Ins mL_law 1087 1088 1 (.iconst 1) := ⟨by decide +kernel, rfl⟩
theorem iL_law_1088 : Ins mL_law 1088 1089 1 (.iadd) := ⟨by decide +kernel, rfl⟩
theorem iL_law_1089 : Ins mL_law 1089 1090 1 (.iaload) := ⟨by decide +kernel, rfl⟩
theorem iL_law_1090 : Ins mL_law 1090 1093 3 (.invokevirtual 119) := ⟨by decide +kernel, rfl⟩
theorem iL_law_1093 : InB mL_law 1093 1096 1580 (.if_icmp .eq) := ⟨by decide +kernel, rfl⟩
theorem iL_law_1096 : Ins mL_law 1096 1097 1 (.iconst 0) := ⟨by decide +kernel, rfl⟩
theorem iL_law_1097 : Ins mL_law 1097 1098 1 (.ireturn) := ⟨by decide +kernel, rfl⟩
theorem iL_law_1098 : Ins mL_law 1098 1099 1 (.aload_n 1) := ⟨by decide +kernel, rfl⟩
theorem iL_law_1099 : Ins mL_law 1099 1100 1 (.aload_n 0) := ⟨by decide +kernel, rfl⟩
theorem iL_law_1100 : Ins mL_law 1100 1101 1 (.iload_n 3) := ⟨by decide +kernel, rfl⟩
theorem iL_law_1101 : Ins mL_law 1101 1102 1 (.iconst 1) := ⟨by decide +kernel, rfl⟩
theorem iL_law_1102 : Ins mL_law 1102 1103 1 (.iadd) := ⟨by decide +kernel, rfl⟩
theorem iL_law_1103 : Ins mL_law 1103 1104 1 (.iaload) := ⟨by decide +kernel, rfl⟩
theorem iL_law_1104 : Ins mL_law 1104 1105 1 (.aload_n 0) := ⟨by decide +kernel, rfl⟩
theorem iL_law_1105 : Ins mL_law 1105 1106 1 (.iload_n 3) := ⟨by decide +kernel, rfl⟩
theorem iL_law_1106 : Ins mL_law 1106 1107 1 (.iconst 2) := ⟨by decide +kernel, rfl⟩
theorem iL_law_1107 : Ins mL_law 1107 1108 1 (.iadd) := ⟨by decide +kernel, rfl⟩
theorem iL_law_1108 : Ins mL_law 1108 1109 1 (.iaload) := ⟨by decide +kernel, rfl⟩
theorem iL_law_1109 : Ins mL_law 1109 1110 1 (.aload_n 0) := ⟨by decide +kernel, rfl⟩
theorem iL_law_1110 : Ins mL_law 1110 1111 1 (.iload_n 3) := ⟨by decide +kernel, rfl⟩
theorem iL_law_1111 : Ins mL_law 1111 1112 1 (.iconst 3) := ⟨by decide +kernel, rfl⟩
theorem iL_law_1112 : Ins mL_law 1112 1113 1 (.iadd) := ⟨by decide +kernel, rfl⟩
theorem iL_law_1113 : Ins mL_law 1113 1114 1 (.iaload) := ⟨by decide +kernel, rfl⟩
theorem iL_law_1114 : Ins mL_law 1114 1115 1 (.aload_n 0) := ⟨by decide +kernel, rfl⟩
theorem iL_law_1115 : Ins mL_law 1115 1116 1 (.iload_n 3) := ⟨by decide +kernel, rfl⟩
theorem iL_law_1116 : Ins mL_law 1116 1117 1 (.iconst 4) := ⟨by decide +kernel, rfl⟩
theorem iL_law_1117 : Ins mL_law 1117 1118 1 (.iadd) := ⟨by decide +kernel, rfl⟩
theorem iL_law_1118 : Ins mL_law 1118 1119 1 (.iaload) := ⟨by decide +kernel, rfl⟩
theorem iL_law_1119 : Ins mL_law 1119 1122 3 (.invokevirtual 120) := ⟨by decide +kernel, rfl⟩
theorem iL_law_1122 : Ins mL_law 1122 1123 1 (.aload_n 2) := ⟨by decide +kernel, rfl⟩
theorem iL_law_1123 : Ins mL_law 1123 1124 1 (.aload_n 0) := ⟨by decide +kernel, rfl⟩
theorem iL_law_1124 : Ins mL_law 1124 1125 1 (.iload_n 3) := ⟨by decide +kernel, rfl⟩
theorem iL_law_1125 : Ins mL_law 1125 1126 1 (.iconst 1) := ⟨by decide +kernel, rfl⟩
theorem iL_law_1126 : Ins mL_law 1126 1127 1 (.iadd) := ⟨by decide +kernel, rfl⟩
theorem iL_law_1127 : Ins mL_law 1127 1128 1 (.iaload) := ⟨by decide +kernel, rfl⟩
theorem iL_law_1128 : Ins mL_law 1128 1129 1 (.aload_n 0) := ⟨by decide +kernel, rfl⟩
theorem iL_law_1129 : Ins mL_law 1129 1130 1 (.iload_n 3) := ⟨by decide +kernel, rfl⟩
theorem iL_law_1130 : Ins mL_law 1130 1131 1 (.iconst 2) := ⟨by decide +kernel, rfl⟩
theorem iL_law_1131 : Ins mL_law 1131 1132 1 (.iadd) := ⟨by decide +kernel, rfl⟩
theorem iL_law_1132 : Ins mL_law 1132 1133 1 (.iaload) := ⟨by decide +kernel, rfl⟩
theorem iL_law_1133 : Ins mL_law 1133 1134 1 (.aload_n 0) := ⟨by decide +kernel, rfl⟩
theorem iL_law_1134 : Ins mL_law 1134 1135 1 (.iload_n 3) := ⟨by decide +kernel, rfl⟩
theorem iL_law_1135 : Ins mL_law 1135 1136 1 (.iconst 3) := ⟨by decide +kernel, rfl⟩
theorem iL_law_1136 : Ins mL_law 1136 1137 1 (.iadd) := ⟨by decide +kernel, rfl⟩
theorem iL_law_1137 : Ins mL_law 1137 1138 1 (.iaload) := ⟨by decide +kernel, rfl⟩
theorem iL_law_1138 : Ins mL_law 1138 1139 1 (.aload_n 0) := ⟨by decide +kernel, rfl⟩
theorem iL_law_1139 : Ins mL_law 1139 1140 1 (.iload_n 3) := ⟨by decide +kernel, rfl⟩
theorem iL_law_1140 : Ins mL_law 1140 1141 1 (.iconst 4) := ⟨by decide +kernel, rfl⟩
theorem iL_law_1141 : Ins mL_law 1141 1142 1 (.iadd) := ⟨by decide +kernel, rfl⟩
theorem iL_law_1142 : Ins mL_law 1142 1143 1 (.iaload) := ⟨by decide +kernel, rfl⟩
theorem iL_law_1143 : Ins mL_law 1143 1146 3 (.invokevirtual 124) := ⟨by decide +kernel, rfl⟩
theorem iL_law_1146 : Ins mL_law 1146 1147 1 (.lcmp) := ⟨by decide +kernel, rfl⟩
theorem iL_law_1147 : InB mL_law 1147 1150 1580 (.ifCond .eq) := ⟨by decide +kernel, rfl⟩
theorem iL_law_1150 : Ins mL_law 1150 1151 1 (.iconst 0) := ⟨by decide +kernel, rfl⟩
theorem iL_law_1151 : Ins mL_law 1151 1152 1 (.ireturn) := ⟨by decide +kernel, rfl⟩
theorem iL_law_1152 : Ins mL_law 1152 1153 1 (.aload_n 1) := ⟨by decide +kernel, rfl⟩
theorem iL_law_1153 : Ins mL_law 1153 1154 1 (.aload_n 0) := ⟨by decide +kernel, rfl⟩
theorem iL_law_1154 : Ins mL_law 1154 1155 1 (.iload_n 3) := ⟨by decide +kernel, rfl⟩
theorem iL_law_1155 : Ins mL_law 1155 1156 1 (.iconst 1) := ⟨by decide +kernel, rfl⟩
theorem iL_law_1156 : Ins mL_law 1156 1157 1 (.iadd) := ⟨by decide +kernel, rfl⟩
theorem iL_law_1157 : Ins mL_law 1157 1158 1 (.iaload) := ⟨by decide +kernel, rfl⟩
theorem iL_law_1158 : Ins mL_law 1158 1161 3 (.invokevirtual 125) := ⟨by decide +kernel, rfl⟩
theorem iL_law_1161 : Ins mL_law 1161 1162 1 (.aload_n 2) := ⟨by decide +kernel, rfl⟩
theorem iL_law_1162 : Ins mL_law 1162 1163 1 (.aload_n 0) := ⟨by decide +kernel, rfl⟩
theorem iL_law_1163 : Ins mL_law 1163 1164 1 (.iload_n 3) := ⟨by decide +kernel, rfl⟩
theorem iL_law_1164 : Ins mL_law 1164 1165 1 (.iconst 1) := ⟨by decide +kernel, rfl⟩
theorem iL_law_1165 : Ins mL_law 1165 1166 1 (.iadd) := ⟨by decide +kernel, rfl⟩
theorem iL_law_1166 : Ins mL_law 1166 1167 1 (.iaload) := ⟨by decide +kernel, rfl⟩
theorem iL_law_1167 : Ins mL_law 1167 1170 3 (.invokevirtual 128) := ⟨by decide +kernel, rfl⟩
theorem iL_law_1170 : InB mL_law 1170 1173 1580 (.if_icmp .eq) := ⟨by decide +kernel, rfl⟩
theorem iL_law_1173 : Ins mL_law 1173 1174 1 (.iconst 0) := ⟨by decide +kernel, rfl⟩
theorem iL_law_1174 : Ins mL_law 1174 1175 1 (.ireturn) := ⟨by decide +kernel, rfl⟩
theorem iL_law_1175 : Ins mL_law 1175 1176 1 (.aload_n 1) := ⟨by decide +kernel, rfl⟩
theorem iL_law_1176 : Ins mL_law 1176 1177 1 (.aload_n 0) := ⟨by decide +kernel, rfl⟩
theorem iL_law_1177 : Ins mL_law 1177 1178 1 (.iload_n 3) := ⟨by decide +kernel, rfl⟩
theorem iL_law_1178 : Ins mL_law 1178 1179 1 (.iconst 1) := ⟨by decide +kernel, rfl⟩
theorem iL_law_1179 : Ins mL_law 1179 1180 1 (.iadd) := ⟨by decide +kernel, rfl⟩
theorem iL_law_1180 : Ins mL_law 1180 1181 1 (.iaload) := ⟨by decide +kernel, rfl⟩
theorem iL_law_1181 : Ins mL_law 1181 1182 1 (.aload_n 0) := ⟨by decide +kernel, rfl⟩
theorem iL_law_1182 : Ins mL_law 1182 1183 1 (.iload_n 3) := ⟨by decide +kernel, rfl⟩
theorem iL_law_1183 : Ins mL_law 1183 1184 1 (.iconst 2) := ⟨by decide +kernel, rfl⟩
theorem iL_law_1184 : Ins mL_law 1184 1185 1 (.iadd) := ⟨by decide +kernel, rfl⟩
theorem iL_law_1185 : Ins mL_law 1185 1186 1 (.iaload) := ⟨by decide +kernel, rfl⟩
theorem iL_law_1186 : Ins mL_law 1186 1189 3 (.invokevirtual 129) := ⟨by decide +kernel, rfl⟩
theorem iL_law_1189 : Ins mL_law 1189 1190 1 (.aload_n 2) := ⟨by decide +kernel, rfl⟩
theorem iL_law_1190 : Ins mL_law 1190 1191 1 (.aload_n 0) := ⟨by decide +kernel, rfl⟩
theorem iL_law_1191 : Ins mL_law 1191 1192 1 (.iload_n 3) := ⟨by decide +kernel, rfl⟩
theorem iL_law_1192 : Ins mL_law 1192 1193 1 (.iconst 1) := ⟨by decide +kernel, rfl⟩
theorem iL_law_1193 : Ins mL_law 1193 1194 1 (.iadd) := ⟨by decide +kernel, rfl⟩
theorem iL_law_1194 : Ins mL_law 1194 1195 1 (.iaload) := ⟨by decide +kernel, rfl⟩
theorem iL_law_1195 : Ins mL_law 1195 1196 1 (.aload_n 0) := ⟨by decide +kernel, rfl⟩
theorem iL_law_1196 : Ins mL_law 1196 1197 1 (.iload_n 3) := ⟨by decide +kernel, rfl⟩
theorem iL_law_1197 : Ins mL_law 1197 1198 1 (.iconst 2) := ⟨by decide +kernel, rfl⟩
theorem iL_law_1198 : Ins mL_law 1198 1199 1 (.iadd) := ⟨by decide +kernel, rfl⟩
theorem iL_law_1199 : Ins mL_law 1199 1200 1 (.iaload) := ⟨by decide +kernel, rfl⟩
theorem iL_law_1200 : Ins mL_law 1200 1203 3 (.invokevirtual 132) := ⟨by decide +kernel, rfl⟩
theorem iL_law_1203 : InB mL_law 1203 1206 1580 (.if_icmp .eq) := ⟨by decide +kernel, rfl⟩
theorem iL_law_1206 : Ins mL_law 1206 1207 1 (.iconst 0) := ⟨by decide +kernel, rfl⟩
theorem iL_law_1207 : Ins mL_law 1207 1208 1 (.ireturn) := ⟨by decide +kernel, rfl⟩
theorem iL_law_1208 : Ins mL_law 1208 1209 1 (.aload_n 1) := ⟨by decide +kernel, rfl⟩
theorem iL_law_1209 : Ins mL_law 1209 1212 3 (.invokevirtual 133) := ⟨by decide +kernel, rfl⟩
theorem iL_law_1212 : Ins mL_law 1212 1213 1 (.aload_n 2) := ⟨by decide +kernel, rfl⟩
theorem iL_law_1213 : Ins mL_law 1213 1216 3 (.invokevirtual 137) := ⟨by decide +kernel, rfl⟩
theorem iL_law_1216 : InB mL_law 1216 1219 1580 (.if_icmp .eq) := ⟨by decide +kernel, rfl⟩
theorem iL_law_1219 : Ins mL_law 1219 1220 1 (.iconst 0) := ⟨by decide +kernel, rfl⟩
theorem iL_law_1220 : Ins mL_law 1220 1221 1 (.ireturn) := ⟨by decide +kernel, rfl⟩
theorem iL_law_1221 : Ins mL_law 1221 1222 1 (.aload_n 1) := ⟨by decide +kernel, rfl⟩
theorem iL_law_1222 : Ins mL_law 1222 1225 3 (.invokevirtual 138) := ⟨by decide +kernel, rfl⟩
theorem iL_law_1225 : Ins mL_law 1225 1226 1 (.aload_n 2) := ⟨by decide +kernel, rfl⟩
theorem iL_law_1226 : Ins mL_law 1226 1229 3 (.invokevirtual 141) := ⟨by decide +kernel, rfl⟩
theorem iL_law_1229 : InB mL_law 1229 1232 1580 (.if_icmp .eq) := ⟨by decide +kernel, rfl⟩
theorem iL_law_1232 : Ins mL_law 1232 1233 1 (.iconst 0) := ⟨by decide +kernel, rfl⟩
theorem iL_law_1233 : Ins mL_law 1233 1234 1 (.ireturn) := ⟨by decide +kernel, rfl⟩
theorem iL_law_1234 : Ins mL_law 1234 1235 1 (.aload_n 1) := ⟨by decide +kernel, rfl⟩
theorem iL_law_1235 : Ins mL_law 1235 1236 1 (.aload_n 0) := ⟨by decide +kernel, rfl⟩
theorem iL_law_1236 : Ins mL_law 1236 1237 1 (.iload_n 3) := ⟨by decide +kernel, rfl⟩
theorem iL_law_1237 : Ins mL_law 1237 1238 1 (.iconst 1) := ⟨by decide +kernel, rfl⟩
theorem iL_law_1238 : Ins mL_law 1238 1239 1 (.iadd) := ⟨by decide +kernel, rfl⟩
theorem iL_law_1239 : Ins mL_law 1239 1240 1 (.iaload) := ⟨by decide +kernel, rfl⟩
theorem iL_law_1240 : Ins mL_law 1240 1241 1 (.aload_n 0) := ⟨by decide +kernel, rfl⟩
theorem iL_law_1241 : Ins mL_law 1241 1242 1 (.iload_n 3) := ⟨by decide +kernel, rfl⟩
theorem iL_law_1242 : Ins mL_law 1242 1243 1 (.iconst 2) := ⟨by decide +kernel, rfl⟩
theorem iL_law_1243 : Ins mL_law 1243 1244 1 (.iadd) := ⟨by decide +kernel, rfl⟩
theorem iL_law_1244 : Ins mL_law 1244 1245 1 (.iaload) := ⟨by decide +kernel, rfl⟩
theorem iL_law_1245 : Ins mL_law 1245 1248 3 (.invokevirtual 142) := ⟨by decide +kernel, rfl⟩
theorem iL_law_1248 : Ins mL_law 1248 1249 1 (.aload_n 2) := ⟨by decide +kernel, rfl⟩
theorem iL_law_1249 : Ins mL_law 1249 1250 1 (.aload_n 0) := ⟨by decide +kernel, rfl⟩
theorem iL_law_1250 : Ins mL_law 1250 1251 1 (.iload_n 3) := ⟨by decide +kernel, rfl⟩
theorem iL_law_1251 : Ins mL_law 1251 1252 1 (.iconst 1) := ⟨by decide +kernel, rfl⟩
theorem iL_law_1252 : Ins mL_law 1252 1253 1 (.iadd) := ⟨by decide +kernel, rfl⟩
theorem iL_law_1253 : Ins mL_law 1253 1254 1 (.iaload) := ⟨by decide +kernel, rfl⟩
theorem iL_law_1254 : Ins mL_law 1254 1255 1 (.aload_n 0) := ⟨by decide +kernel, rfl⟩
theorem iL_law_1255 : Ins mL_law 1255 1256 1 (.iload_n 3) := ⟨by decide +kernel, rfl⟩
theorem iL_law_1256 : Ins mL_law 1256 1257 1 (.iconst 2) := ⟨by decide +kernel, rfl⟩
theorem iL_law_1257 : Ins mL_law 1257 1258 1 (.iadd) := ⟨by decide +kernel, rfl⟩
theorem iL_law_1258 : Ins mL_law 1258 1259 1 (.iaload) := ⟨by decide +kernel, rfl⟩
theorem iL_law_1259 : Ins mL_law 1259 1262 3 (.invokevirtual 145) := ⟨by decide +kernel, rfl⟩
theorem iL_law_1262 : InB mL_law 1262 1265 1580 (.if_icmp .eq) := ⟨by decide +kernel, rfl⟩
theorem iL_law_1265 : Ins mL_law 1265 1266 1 (.iconst 0) := ⟨by decide +kernel, rfl⟩
theorem iL_law_1266 : Ins mL_law 1266 1267 1 (.ireturn) := ⟨by decide +kernel, rfl⟩
theorem iL_law_1267 : Ins mL_law 1267 1268 1 (.aload_n 1) := ⟨by decide +kernel, rfl⟩
theorem iL_law_1268 : Ins mL_law 1268 1269 1 (.aload_n 0) := ⟨by decide +kernel, rfl⟩
theorem iL_law_1269 : Ins mL_law 1269 1270 1 (.iload_n 3) := ⟨by decide +kernel, rfl⟩
theorem iL_law_1270 : Ins mL_law 1270 1271 1 (.iconst 1) := ⟨by decide +kernel, rfl⟩
theorem iL_law_1271 : Ins mL_law 1271 1272 1 (.iadd) := ⟨by decide +kernel, rfl⟩
theorem iL_law_1272 : Ins mL_law 1272 1273 1 (.iaload) := ⟨by decide +kernel, rfl⟩
theorem iL_law_1273 : Ins mL_law 1273 1274 1 (.aload_n 0) := ⟨by decide +kernel, rfl⟩
theorem iL_law_1274 : Ins mL_law 1274 1275 1 (.iload_n 3) := ⟨by decide +kernel, rfl⟩
theorem iL_law_1275 : Ins mL_law 1275 1276 1 (.iconst 2) := ⟨by decide +kernel, rfl⟩
theorem iL_law_1276 : Ins mL_law 1276 1277 1 (.iadd) := ⟨by decide +kernel, rfl⟩
theorem iL_law_1277 : Ins mL_law 1277 1278 1 (.iaload) := ⟨by decide +kernel, rfl⟩
theorem iL_law_1278 : Ins mL_law 1278 1281 3 (.invokevirtual 146) := ⟨by decide +kernel, rfl⟩
theorem iL_law_1281 : Ins mL_law 1281 1282 1 (.aload_n 2) := ⟨by decide +kernel, rfl⟩
theorem iL_law_1282 : Ins mL_law 1282 1283 1 (.aload_n 0) := ⟨by decide +kernel, rfl⟩
theorem iL_law_1283 : Ins mL_law 1283 1284 1 (.iload_n 3) := ⟨by decide +kernel, rfl⟩
theorem iL_law_1284 : Ins mL_law 1284 1285 1 (.iconst 1) := ⟨by decide +kernel, rfl⟩
theorem iL_law_1285 : Ins mL_law 1285 1286 1 (.iadd) := ⟨by decide +kernel, rfl⟩
theorem iL_law_1286 : Ins mL_law 1286 1287 1 (.iaload) := ⟨by decide +kernel, rfl⟩
theorem iL_law_1287 : Ins mL_law 1287 1288 1 (.aload_n 0) := ⟨by decide +kernel, rfl⟩
theorem iL_law_1288 : Ins mL_law 1288 1289 1 (.iload_n 3) := ⟨by decide +kernel, rfl⟩
theorem iL_law_1289 : Ins mL_law 1289 1290 1 (.iconst 2) := ⟨by decide +kernel, rfl⟩
theorem iL_law_1290 : Ins mL_law 1290 1291 1 (.iadd) := ⟨by decide +kernel, rfl⟩
theorem iL_law_1291 : Ins mL_law 1291 1292 1 (.iaload) := ⟨by decide +kernel, rfl⟩
theorem iL_law_1292 : Ins mL_law 1292 1295 3 (.invokevirtual 149) := ⟨by decide +kernel, rfl⟩
theorem iL_law_1295 : InB mL_law 1295 1298 1580 (.if_icmp .eq) := ⟨by decide +kernel, rfl⟩
theorem iL_law_1298 : Ins mL_law 1298 1299 1 (.iconst 0) := ⟨by decide +kernel, rfl⟩
theorem iL_law_1299 : Ins mL_law 1299 1300 1 (.ireturn) := ⟨by decide +kernel, rfl⟩
theorem iL_law_1300 : Ins mL_law 1300 1301 1 (.aload_n 1) := ⟨by decide +kernel, rfl⟩
theorem iL_law_1301 : Ins mL_law 1301 1302 1 (.aload_n 0) := ⟨by decide +kernel, rfl⟩
theorem iL_law_1302 : Ins mL_law 1302 1303 1 (.iload_n 3) := ⟨by decide +kernel, rfl⟩
theorem iL_law_1303 : Ins mL_law 1303 1304 1 (.iconst 1) := ⟨by decide +kernel, rfl⟩
theorem iL_law_1304 : Ins mL_law 1304 1305 1 (.iadd) := ⟨by decide +kernel, rfl⟩
theorem iL_law_1305 : Ins mL_law 1305 1306 1 (.iaload) := ⟨by decide +kernel, rfl⟩
theorem iL_law_1306 : Ins mL_law 1306 1307 1 (.aload_n 0) := ⟨by decide +kernel, rfl⟩
theorem iL_law_1307 : Ins mL_law 1307 1308 1 (.iload_n 3) := ⟨by decide +kernel, rfl⟩
theorem iL_law_1308 : Ins mL_law 1308 1309 1 (.iconst 2) := ⟨by decide +kernel, rfl⟩
theorem iL_law_1309 : Ins mL_law 1309 1310 1 (.iadd) := ⟨by decide +kernel, rfl⟩
theorem iL_law_1310 : Ins mL_law 1310 1311 1 (.iaload) := ⟨by decide +kernel, rfl⟩
theorem iL_law_1311 : Ins mL_law 1311 1312 1 (.aload_n 0) := ⟨by decide +kernel, rfl⟩
theorem iL_law_1312 : Ins mL_law 1312 1313 1 (.iload_n 3) := ⟨by decide +kernel, rfl⟩
theorem iL_law_1313 : Ins mL_law 1313 1314 1 (.iconst 3) := ⟨by decide +kernel, rfl⟩
theorem iL_law_1314 : Ins mL_law 1314 1315 1 (.iadd) := ⟨by decide +kernel, rfl⟩
theorem iL_law_1315 : Ins mL_law 1315 1316 1 (.iaload) := ⟨by decide +kernel, rfl⟩
theorem iL_law_1316 : Ins mL_law 1316 1319 3 (.invokevirtual 150) := ⟨by decide +kernel, rfl⟩
theorem iL_law_1319 : Ins mL_law 1319 1320 1 (.aload_n 2) := ⟨by decide +kernel, rfl⟩
theorem iL_law_1320 : Ins mL_law 1320 1321 1 (.aload_n 0) := ⟨by decide +kernel, rfl⟩
theorem iL_law_1321 : Ins mL_law 1321 1322 1 (.iload_n 3) := ⟨by decide +kernel, rfl⟩
theorem iL_law_1322 : Ins mL_law 1322 1323 1 (.iconst 1) := ⟨by decide +kernel, rfl⟩
theorem iL_law_1323 : Ins mL_law 1323 1324 1 (.iadd) := ⟨by decide +kernel, rfl⟩
theorem iL_law_1324 : Ins mL_law 1324 1325 1 (.iaload) := ⟨by decide +kernel, rfl⟩
theorem iL_law_1325 : Ins mL_law 1325 1326 1 (.aload_n 0) := ⟨by decide +kernel, rfl⟩
theorem iL_law_1326 : Ins mL_law 1326 1327 1 (.iload_n 3) := ⟨by decide +kernel, rfl⟩
theorem iL_law_1327 : Ins mL_law 1327 1328 1 (.iconst 2) := ⟨by decide +kernel, rfl⟩
theorem iL_law_1328 : Ins mL_law 1328 1329 1 (.iadd) := ⟨by decide +kernel, rfl⟩
theorem iL_law_1329 : Ins mL_law 1329 1330 1 (.iaload) := ⟨by decide +kernel, rfl⟩
theorem iL_law_1330 : Ins mL_law 1330 1331 1 (.aload_n 0) := ⟨by decide +kernel, rfl⟩
theorem iL_law_1331 : Ins mL_law 1331 1332 1 (.iload_n 3) := ⟨by decide +kernel, rfl⟩
theorem iL_law_1332 : Ins mL_law 1332 1333 1 (.iconst 3) := ⟨by decide +kernel, rfl⟩
theorem iL_law_1333 : Ins mL_law 1333 1334 1 (.iadd) := ⟨by decide +kernel, rfl⟩
theorem iL_law_1334 : Ins mL_law 1334 1335 1 (.iaload) := ⟨by decide +kernel, rfl⟩
theorem iL_law_1335 : Ins mL_law 1335 1338 3 (.invokevirtual 153) := ⟨by decide +kernel, rfl⟩
theorem iL_law_1338 : InB mL_law 1338 1341 1580 (.if_icmp .eq) := ⟨by decide +kernel, rfl⟩
theorem iL_law_1341 : Ins mL_law 1341 1342 1 (.iconst 0) := ⟨by decide +kernel, rfl⟩
theorem iL_law_1342 : Ins mL_law 1342 1343 1 (.ireturn) := ⟨by decide +kernel, rfl⟩
theorem iL_law_1343 : Ins mL_law 1343 1344 1 (.aload_n 1) := ⟨by decide +kernel, rfl⟩
theorem iL_law_1344 : Ins mL_law 1344 1345 1 (.aload_n 0) := ⟨by decide +kernel, rfl⟩
theorem iL_law_1345 : Ins mL_law 1345 1346 1 (.iload_n 3) := ⟨by decide +kernel, rfl⟩
theorem iL_law_1346 : Ins mL_law 1346 1347 1 (.iconst 1) := ⟨by decide +kernel, rfl⟩
theorem iL_law_1347 : Ins mL_law 1347 1348 1 (.iadd) := ⟨by decide +kernel, rfl⟩
theorem iL_law_1348 : Ins mL_law 1348 1349 1 (.iaload) := ⟨by decide +kernel, rfl⟩
theorem iL_law_1349 : Ins mL_law 1349 1350 1 (.aload_n 0) := ⟨by decide +kernel, rfl⟩
theorem iL_law_1350 : Ins mL_law 1350 1351 1 (.iload_n 3) := ⟨by decide +kernel, rfl⟩
theorem iL_law_1351 : Ins mL_law 1351 1352 1 (.iconst 2) := ⟨by decide +kernel, rfl⟩
theorem iL_law_1352 : Ins mL_law 1352 1353 1 (.iadd) := ⟨by decide +kernel, rfl⟩
theorem iL_law_1353 : Ins mL_law 1353 1354 1 (.iaload) := ⟨by decide +kernel, rfl⟩
theorem iL_law_1354 : Ins mL_law 1354 1355 1 (.aload_n 0) := ⟨by decide +kernel, rfl⟩
theorem iL_law_1355 : Ins mL_law 1355 1356 1 (.iload_n 3) := ⟨by decide +kernel, rfl⟩
theorem iL_law_1356 : Ins mL_law 1356 1357 1 (.iconst 3) := ⟨by decide +kernel, rfl⟩
theorem iL_law_1357 : Ins mL_law 1357 1358 1 (.iadd) := ⟨by decide +kernel, rfl⟩
theorem iL_law_1358 : Ins mL_law 1358 1359 1 (.iaload) := ⟨by decide +kernel, rfl⟩
theorem iL_law_1359 : Ins mL_law 1359 1362 3 (.invokevirtual 154) := ⟨by decide +kernel, rfl⟩
theorem iL_law_1362 : Ins mL_law 1362 1363 1 (.aload_n 2) := ⟨by decide +kernel, rfl⟩
theorem iL_law_1363 : Ins mL_law 1363 1364 1 (.aload_n 0) := ⟨by decide +kernel, rfl⟩
theorem iL_law_1364 : Ins mL_law 1364 1365 1 (.iload_n 3) := ⟨by decide +kernel, rfl⟩
theorem iL_law_1365 : Ins mL_law 1365 1366 1 (.iconst 1) := ⟨by decide +kernel, rfl⟩
theorem iL_law_1366 : Ins mL_law 1366 1367 1 (.iadd) := ⟨by decide +kernel, rfl⟩
theorem iL_law_1367 : Ins mL_law 1367 1368 1 (.iaload) := ⟨by decide +kernel, rfl⟩
theorem iL_law_1368 : Ins mL_law 1368 1369 1 (.aload_n 0) := ⟨by decide +kernel, rfl⟩
theorem iL_law_1369 : Ins mL_law 1369 1370 1 (.iload_n 3) := ⟨by decide +kernel, rfl⟩
theorem iL_law_1370 : Ins mL_law 1370 1371 1 (.iconst 2) := ⟨by decide +kernel, rfl⟩
theorem iL_law_1371 : Ins mL_law 1371 1372 1 (.iadd) := ⟨by decide +kernel, rfl⟩
theorem iL_law_1372 : Ins mL_law 1372 1373 1 (.iaload) := ⟨by decide +kernel, rfl⟩
theorem iL_law_1373 : Ins mL_law 1373 1374 1 (.aload_n 0) := ⟨by decide +kernel, rfl⟩
theorem iL_law_1374 : Ins mL_law 1374 1375 1 (.iload_n 3) := ⟨by decide +kernel, rfl⟩
theorem iL_law_1375 : Ins mL_law 1375 1376 1 (.iconst 3) := ⟨by decide +kernel, rfl⟩
theorem iL_law_1376 : Ins mL_law 1376 1377 1 (.iadd) := ⟨by decide +kernel, rfl⟩
theorem iL_law_1377 : Ins mL_law 1377 1378 1 (.iaload) := ⟨by decide +kernel, rfl⟩
theorem iL_law_1378 : Ins mL_law 1378 1381 3 (.invokevirtual 157) := ⟨by decide +kernel, rfl⟩
theorem iL_law_1381 : InB mL_law 1381 1384 1580 (.if_icmp .eq) := ⟨by decide +kernel, rfl⟩
theorem iL_law_1384 : Ins mL_law 1384 1385 1 (.iconst 0) := ⟨by decide +kernel, rfl⟩
theorem iL_law_1385 : Ins mL_law 1385 1386 1 (.ireturn) := ⟨by decide +kernel, rfl⟩
theorem iL_law_1386 : Ins mL_law 1386 1387 1 (.aload_n 1) := ⟨by decide +kernel, rfl⟩
theorem iL_law_1387 : Ins mL_law 1387 1388 1 (.aload_n 0) := ⟨by decide +kernel, rfl⟩
theorem iL_law_1388 : Ins mL_law 1388 1389 1 (.iload_n 3) := ⟨by decide +kernel, rfl⟩
theorem iL_law_1389 : Ins mL_law 1389 1390 1 (.iconst 1) := ⟨by decide +kernel, rfl⟩
theorem iL_law_1390 : Ins mL_law 1390 1391 1 (.iadd) := ⟨by decide +kernel, rfl⟩
theorem iL_law_1391 : Ins mL_law 1391 1392 1 (.iaload) := ⟨by decide +kernel, rfl⟩
theorem iL_law_1392 : Ins mL_law 1392 1393 1 (.aload_n 0) := ⟨by decide +kernel, rfl⟩
theorem iL_law_1393 : Ins mL_law 1393 1394 1 (.iload_n 3) := ⟨by decide +kernel, rfl⟩
theorem iL_law_1394 : Ins mL_law 1394 1395 1 (.iconst 2) := ⟨by decide +kernel, rfl⟩
theorem iL_law_1395 : Ins mL_law 1395 1396 1 (.iadd) := ⟨by decide +kernel, rfl⟩
theorem iL_law_1396 : Ins mL_law 1396 1397 1 (.iaload) := ⟨by decide +kernel, rfl⟩
theorem iL_law_1397 : Ins mL_law 1397 1398 1 (.aload_n 0) := ⟨by decide +kernel, rfl⟩
theorem iL_law_1398 : Ins mL_law 1398 1399 1 (.iload_n 3) := ⟨by decide +kernel, rfl⟩
theorem iL_law_1399 : Ins mL_law 1399 1400 1 (.iconst 3) := ⟨by decide +kernel, rfl⟩
theorem iL_law_1400 : Ins mL_law 1400 1401 1 (.iadd) := ⟨by decide +kernel, rfl⟩
theorem iL_law_1401 : Ins mL_law 1401 1402 1 (.iaload) := ⟨by decide +kernel, rfl⟩
theorem iL_law_1402 : Ins mL_law 1402 1403 1 (.aload_n 0) := ⟨by decide +kernel, rfl⟩
theorem iL_law_1403 : Ins mL_law 1403 1404 1 (.iload_n 3) := ⟨by decide +kernel, rfl⟩
theorem iL_law_1404 : Ins mL_law 1404 1405 1 (.iconst 4) := ⟨by decide +kernel, rfl⟩
theorem iL_law_1405 : Ins mL_law 1405 1406 1 (.iadd) := ⟨by decide +kernel, rfl⟩
theorem iL_law_1406 : Ins mL_law 1406 1407 1 (.iaload) := ⟨by decide +kernel, rfl⟩
theorem iL_law_1407 : Ins mL_law 1407 1408 1 (.aload_n 0) := ⟨by decide +kernel, rfl⟩
theorem iL_law_1408 : Ins mL_law 1408 1409 1 (.iload_n 3) := ⟨by decide +kernel, rfl⟩
theorem iL_law_1409 : Ins mL_law 1409 1410 1 (.iconst 5) := ⟨by decide +kernel, rfl⟩
theorem iL_law_1410 : Ins mL_law 1410 1411 1 (.iadd) := ⟨by decide +kernel, rfl⟩
theorem iL_law_1411 : Ins mL_law 1411 1412 1 (.iaload) := ⟨by decide +kernel, rfl⟩
theorem iL_law_1412 : Ins mL_law 1412 1415 3 (.invokevirtual 158) := ⟨by decide +kernel, rfl⟩
theorem iL_law_1415 : Ins mL_law 1415 1416 1 (.aload_n 2) := ⟨by decide +kernel, rfl⟩
theorem iL_law_1416 : Ins mL_law 1416 1417 1 (.aload_n 0) := ⟨by decide +kernel, rfl⟩
theorem iL_law_1417 : Ins mL_law 1417 1418 1 (.iload_n 3) := ⟨by decide +kernel, rfl⟩
theorem iL_law_1418 : Ins mL_law 1418 1419 1 (.iconst 1) := ⟨by decide +kernel, rfl⟩
theorem iL_law_1419 : Ins mL_law 1419 1420 1 (.iadd) := ⟨by decide +kernel, rfl⟩
theorem iL_law_1420 : Ins mL_law 1420 1421 1 (.iaload) := ⟨by decide +kernel, rfl⟩
theorem iL_law_1421 : Ins mL_law 1421 1422 1 (.aload_n 0) := ⟨by decide +kernel, rfl⟩
theorem iL_law_1422 : Ins mL_law 1422 1423 1 (.iload_n 3) := ⟨by decide +kernel, rfl⟩
theorem iL_law_1423 : Ins mL_law 1423 1424 1 (.iconst 2) := ⟨by decide +kernel, rfl⟩
theorem iL_law_1424 : Ins mL_law 1424 1425 1 (.iadd) := ⟨by decide +kernel, rfl⟩
theorem iL_law_1425 : Ins mL_law 1425 1426 1 (.iaload) := ⟨by decide +kernel, rfl⟩
theorem iL_law_1426 : Ins mL_law 1426 1427 1 (.aload_n 0) := ⟨by decide +kernel, rfl⟩
theorem iL_law_1427 : Ins mL_law 1427 1428 1 (.iload_n 3) := ⟨by decide +kernel, rfl⟩
theorem iL_law_1428 : Ins mL_law 1428 1429 1 (.iconst 3) := ⟨by decide +kernel, rfl⟩
theorem iL_law_1429 : Ins mL_law 1429 1430 1 (.iadd) := ⟨by decide +kernel, rfl⟩
theorem iL_law_1430 : Ins mL_law 1430 1431 1 (.iaload) := ⟨by decide +kernel, rfl⟩
theorem iL_law_1431 : Ins mL_law 1431 1432 1 (.aload_n 0) := ⟨by decide +kernel, rfl⟩
theorem iL_law_1432 : Ins mL_law 1432 1433 1 (.iload_n 3) := ⟨by decide +kernel, rfl⟩
theorem iL_law_1433 : Ins mL_law 1433 1434 1 (.iconst 4) := ⟨by decide +kernel, rfl⟩
theorem iL_law_1434 : Ins mL_law 1434 1435 1 (.iadd) := ⟨by decide +kernel, rfl⟩
theorem iL_law_1435 : Ins mL_law 1435 1436 1 (.iaload) := ⟨by decide +kernel, rfl⟩
theorem iL_law_1436 : Ins mL_law 1436 1437 1 (.aload_n 0) := ⟨by decide +kernel, rfl⟩
theorem iL_law_1437 : Ins mL_law 1437 1438 1 (.iload_n 3) := ⟨by decide +kernel, rfl⟩
theorem iL_law_1438 : Ins mL_law 1438 1439 1 (.iconst 5) := ⟨by decide +kernel, rfl⟩
theorem iL_law_1439 : Ins mL_law 1439 1440 1 (.iadd) := ⟨by decide +kernel, rfl⟩
theorem iL_law_1440 : Ins mL_law 1440 1441 1 (.iaload) := ⟨by decide +kernel, rfl⟩
theorem iL_law_1441 : Ins mL_law 1441 1444 3 (.invokevirtual 162) := ⟨by decide +kernel, rfl⟩
theorem iL_law_1444 : InB mL_law 1444 1447 1580 (.if_icmp .eq) := ⟨by decide +kernel, rfl⟩
theorem iL_law_1447 : Ins mL_law 1447 1448 1 (.iconst 0) := ⟨by decide +kernel, rfl⟩
theorem iL_law_1448 : Ins mL_law 1448 1449 1 (.ireturn) := ⟨by decide +kernel, rfl⟩
theorem iL_law_1449 : Ins mL_law 1449 1450 1 (.aload_n 1) := ⟨by decide +kernel, rfl⟩
theorem iL_law_1450 : Ins mL_law 1450 1451 1 (.aload_n 0) := ⟨by decide +kernel, rfl⟩
theorem iL_law_1451 : Ins mL_law 1451 1452 1 (.iload_n 3) := ⟨by decide +kernel, rfl⟩
theorem iL_law_1452 : Ins mL_law 1452 1453 1 (.iconst 1) := ⟨by decide +kernel, rfl⟩
theorem iL_law_1453 : Ins mL_law 1453 1454 1 (.iadd) := ⟨by decide +kernel, rfl⟩
theorem iL_law_1454 : Ins mL_law 1454 1455 1 (.iaload) := ⟨by decide +kernel, rfl⟩
theorem iL_law_1455 : Ins mL_law 1455 1458 3 (.invokevirtual 163) := ⟨by decide +kernel, rfl⟩
theorem iL_law_1458 : Ins mL_law 1458 1459 1 (.aload_n 2) := ⟨by decide +kernel, rfl⟩
theorem iL_law_1459 : Ins mL_law 1459 1460 1 (.aload_n 0) := ⟨by decide +kernel, rfl⟩
theorem iL_law_1460 : Ins mL_law 1460 1461 1 (.iload_n 3) := ⟨by decide +kernel, rfl⟩
theorem iL_law_1461 : Ins mL_law 1461 1462 1 (.iconst 1) := ⟨by decide +kernel, rfl⟩
theorem iL_law_1462 : Ins mL_law 1462 1463 1 (.iadd) := ⟨by decide +kernel, rfl⟩
theorem iL_law_1463 : Ins mL_law 1463 1464 1 (.iaload) := ⟨by decide +kernel, rfl⟩
theorem iL_law_1464 : Ins mL_law 1464 1467 3 (.invokevirtual 166) := ⟨by decide +kernel, rfl⟩
theorem iL_law_1467 : InB mL_law 1467 1470 1580 (.if_icmp .eq) := ⟨by decide +kernel, rfl⟩
theorem iL_law_1470 : Ins mL_law 1470 1471 1 (.iconst 0) := ⟨by decide +kernel, rfl⟩
theorem iL_law_1471 : Ins mL_law 1471 1472 1 (.ireturn) := ⟨by decide +kernel, rfl⟩
theorem iL_law_1472 : Ins mL_law 1472 1473 1 (.aload_n 1) := ⟨by decide +kernel, rfl⟩
theorem iL_law_1473 : Ins mL_law 1473 1474 1 (.aload_n 0) := ⟨by decide +kernel, rfl⟩
theorem iL_law_1474 : Ins mL_law 1474 1475 1 (.iload_n 3) := ⟨by decide +kernel, rfl⟩
theorem iL_law_1475 : Ins mL_law 1475 1476 1 (.iconst 1) := ⟨by decide +kernel, rfl⟩
theorem iL_law_1476 : Ins mL_law 1476 1477 1 (.iadd) := ⟨by decide +kernel, rfl⟩
theorem iL_law_1477 : Ins mL_law 1477 1478 1 (.iaload) := ⟨by decide +kernel, rfl⟩
theorem iL_law_1478 : Ins mL_law 1478 1481 3 (.invokevirtual 167) := ⟨by decide +kernel, rfl⟩
theorem iL_law_1481 : Ins mL_law 1481 1482 1 (.aload_n 2) := ⟨by decide +kernel, rfl⟩
theorem iL_law_1482 : Ins mL_law 1482 1483 1 (.aload_n 0) := ⟨by decide +kernel, rfl⟩
theorem iL_law_1483 : Ins mL_law 1483 1484 1 (.iload_n 3) := ⟨by decide +kernel, rfl⟩
theorem iL_law_1484 : Ins mL_law 1484 1485 1 (.iconst 1) := ⟨by decide +kernel, rfl⟩
theorem iL_law_1485 : Ins mL_law 1485 1486 1 (.iadd) := ⟨by decide +kernel, rfl⟩
theorem iL_law_1486 : Ins mL_law 1486 1487 1 (.iaload) := ⟨by decide +kernel, rfl⟩
theorem iL_law_1487 : Ins mL_law 1487 1490 3 (.invokevirtual 170) := ⟨by decide +kernel, rfl⟩
theorem iL_law_1490 : InB mL_law 1490 1493 1580 (.if_icmp .eq) := ⟨by decide +kernel, rfl⟩
theorem iL_law_1493 : Ins mL_law 1493 1494 1 (.iconst 0) := ⟨by decide +kernel, rfl⟩
theorem iL_law_1494 : Ins mL_law 1494 1495 1 (.ireturn) := ⟨by decide +kernel, rfl⟩
theorem iL_law_1495 : Ins mL_law 1495 1496 1 (.aload_n 1) := ⟨by decide +kernel, rfl⟩
theorem iL_law_1496 : Ins mL_law 1496 1499 3 (.invokevirtual 171) := ⟨by decide +kernel, rfl⟩
theorem iL_law_1499 : Ins mL_law 1499 1500 1 (.aload_n 2) := ⟨by decide +kernel, rfl⟩
theorem iL_law_1500 : Ins mL_law 1500 1503 3 (.invokevirtual 174) := ⟨by decide +kernel, rfl⟩
theorem iL_law_1503 : InB mL_law 1503 1506 1580 (.if_icmp .eq) := ⟨by decide +kernel, rfl⟩
theorem iL_law_1506 : Ins mL_law 1506 1507 1 (.iconst 0) := ⟨by decide +kernel, rfl⟩
theorem iL_law_1507 : Ins mL_law 1507 1508 1 (.ireturn) := ⟨by decide +kernel, rfl⟩
theorem iL_law_1508 : Ins mL_law 1508 1509 1 (.aload_n 1) := ⟨by decide +kernel, rfl⟩
theorem iL_law_1509 : Ins mL_law 1509 1512 3 (.invokevirtual 175) := ⟨by decide +kernel, rfl⟩
theorem iL_law_1512 : Ins mL_law 1512 1513 1 (.aload_n 2) := ⟨by decide +kernel, rfl⟩
theorem iL_law_1513 : Ins mL_law 1513 1516 3 (.invokevirtual 178) := ⟨by decide +kernel, rfl⟩
theorem iL_law_1516 : InB mL_law 1516 1519 1580 (.if_icmp .eq) := ⟨by decide +kernel, rfl⟩
theorem iL_law_1519 : Ins mL_law 1519 1520 1 (.iconst 0) := ⟨by decide +kernel, rfl⟩
theorem iL_law_1520 : Ins mL_law 1520 1521 1 (.ireturn) := ⟨by decide +kernel, rfl⟩
theorem iL_law_1521 : Ins mL_law 1521 1522 1 (.aload_n 1) := ⟨by decide +kernel, rfl⟩
theorem iL_law_1522 : Ins mL_law 1522 1525 3 (.invokevirtual 179) := ⟨by decide +kernel, rfl⟩
theorem iL_law_1525 : Ins mL_law 1525 1526 1 (.aload_n 2) := ⟨by decide +kernel, rfl⟩
theorem iL_law_1526 : Ins mL_law 1526 1529 3 (.invokevirtual 182) := ⟨by decide +kernel, rfl⟩
theorem iL_law_1529 : InB mL_law 1529 1532 1580 (.if_icmp .eq) := ⟨by decide +kernel, rfl⟩
theorem iL_law_1532 : Ins mL_law 1532 1533 1 (.iconst 0) := ⟨by decide +kernel, rfl⟩
theorem iL_law_1533 : Ins mL_law 1533 1534 1 (.ireturn) := ⟨by decide +kernel, rfl⟩
theorem iL_law_1534 : Ins mL_law 1534 1535 1 (.aload_n 1) := ⟨by decide +kernel, rfl⟩
theorem iL_law_1535 : Ins mL_law 1535 1536 1 (.aload_n 0) := ⟨by decide +kernel, rfl⟩
theorem iL_law_1536 : Ins mL_law 1536 1537 1 (.iload_n 3) := ⟨by decide +kernel, rfl⟩
theorem iL_law_1537 : Ins mL_law 1537 1538 1 (.iconst 1) := ⟨by decide +kernel, rfl⟩
theorem iL_law_1538 : Ins mL_law 1538 1539 1 (.iadd) := ⟨by decide +kernel, rfl⟩
theorem iL_law_1539 : Ins mL_law 1539 1540 1 (.iaload) := ⟨by decide +kernel, rfl⟩
theorem iL_law_1540 : Ins mL_law 1540 1543 3 (.invokevirtual 183) := ⟨by decide +kernel, rfl⟩
theorem iL_law_1543 : Ins mL_law 1543 1544 1 (.aload_n 2) := ⟨by decide +kernel, rfl⟩
theorem iL_law_1544 : Ins mL_law 1544 1545 1 (.aload_n 0) := ⟨by decide +kernel, rfl⟩
theorem iL_law_1545 : Ins mL_law 1545 1546 1 (.iload_n 3) := ⟨by decide +kernel, rfl⟩
theorem iL_law_1546 : Ins mL_law 1546 1547 1 (.iconst 1) := ⟨by decide +kernel, rfl⟩
theorem iL_law_1547 : Ins mL_law 1547 1548 1 (.iadd) := ⟨by decide +kernel, rfl⟩
theorem iL_law_1548 : Ins mL_law 1548 1549 1 (.iaload) := ⟨by decide +kernel, rfl⟩
theorem iL_law_1549 : Ins mL_law 1549 1552 3 (.invokevirtual 186) := ⟨by decide +kernel, rfl⟩
theorem iL_law_1552 : InB mL_law 1552 1555 1580 (.if_icmp .eq) := ⟨by decide +kernel, rfl⟩
theorem iL_law_1555 : Ins mL_law 1555 1556 1 (.iconst 0) := ⟨by decide +kernel, rfl⟩
theorem iL_law_1556 : Ins mL_law 1556 1557 1 (.ireturn) := ⟨by decide +kernel, rfl⟩
theorem iL_law_1557 : Ins mL_law 1557 1558 1 (.aload_n 1) := ⟨by decide +kernel, rfl⟩
theorem iL_law_1558 : Ins mL_law 1558 1559 1 (.aload_n 0) := ⟨by decide +kernel, rfl⟩
theorem iL_law_1559 : Ins mL_law 1559 1560 1 (.iload_n 3) := ⟨by decide +kernel, rfl⟩
theorem iL_law_1560 : Ins mL_law 1560 1561 1 (.iconst 1) := ⟨by decide +kernel, rfl⟩
theorem iL_law_1561 : Ins mL_law 1561 1562 1 (.iadd) := ⟨by decide +kernel, rfl⟩
theorem iL_law_1562 : Ins mL_law 1562 1563 1 (.iaload) := ⟨by decide +kernel, rfl⟩
theorem iL_law_1563 : Ins mL_law 1563 1566 3 (.invokevirtual 187) := ⟨by decide +kernel, rfl⟩
theorem iL_law_1566 : Ins mL_law 1566 1567 1 (.aload_n 2) := ⟨by decide +kernel, rfl⟩
theorem iL_law_1567 : Ins mL_law 1567 1568 1 (.aload_n 0) := ⟨by decide +kernel, rfl⟩
theorem iL_law_1568 : Ins mL_law 1568 1569 1 (.iload_n 3) := ⟨by decide +kernel, rfl⟩
theorem iL_law_1569 : Ins mL_law 1569 1570 1 (.iconst 1) := ⟨by decide +kernel, rfl⟩
theorem iL_law_1570 : Ins mL_law 1570 1571 1 (.iadd) := ⟨by decide +kernel, rfl⟩
theorem iL_law_1571 : Ins mL_law 1571 1572 1 (.iaload) := ⟨by decide +kernel, rfl⟩
theorem iL_law_1572 : Ins mL_law 1572 1575 3 (.invokevirtual 190) := ⟨by decide +kernel, rfl⟩
theorem iL_law_1575 : InB mL_law 1575 1578 1580 (.if_icmp .eq) := ⟨by decide +kernel, rfl⟩
theorem iL_law_1578 : Ins mL_law 1578 1579 1 (.iconst 0) := ⟨by decide +kernel, rfl⟩
theorem iL_law_1579 : Ins mL_law 1579 1580 1 (.ireturn) := ⟨by decide +kernel, rfl⟩
theorem iL_law_1580 : Ins mL_law 1580 1583 3 (.iinc 3 6) := ⟨by decide +kernel, rfl⟩
theorem iL_law_1583 : InB mL_law 1583 1586 18 .goto := ⟨by decide +kernel, rfl⟩
theorem iL_law_1586 : Ins mL_law 1586 1587 1 (.iconst 1) := ⟨by decide +kernel, rfl⟩
theorem iL_law_1587 : Ins mL_law 1587 1588 1 (.ireturn) := ⟨by decide +kernel, rfl⟩
end
section
theorem kC_X4_120 : Cond.constant RX4 120 (99999) ∈ tw := tw_at 373 (by decide +kernel) rfl
theorem kC_X4_258 : Cond.constant RX4 258 (-1000001) ∈ tw := tw_at 269 (by decide +kernel) rfl
theorem kC_X3_106 : Cond.constant RX3 106 (99999) ∈ tw := tw_at 404 (by decide +kernel) rfl
theorem kC_X3_140 : Cond.constant RX3 140 (1103515245) ∈ tw := tw_at 535 (by decide +kernel) rfl
theorem kC_X5_60 : Cond.constant RX5 60 (-1000001) ∈ tw := tw_at 860 (by decide +kernel) rfl
theorem kC_X5_65 : Cond.constant RX5 65 (-1000004) ∈ tw := tw_at 953 (by decide +kernel) rfl
theorem kC_X5_97 : Cond.constant RX5 97 (-1000002) ∈ tw := tw_at 879 (by decide +kernel) rfl
theorem kC_X5_152 : Cond.constant RX5 152 (-1000005) ∈ tw := tw_at 986 (by decide +kernel) rfl
theorem kC_X5_172 : Cond.constant RX5 172 (99999) ∈ tw := tw_at 991 (by decide +kernel) rfl
theorem kC_X5_235 : Cond.constant RX5 235 (-1000006) ∈ tw := tw_at 1140 (by decide +kernel) rfl
theorem kC_X5_243 : Cond.constant RX5 243 (1103515245) ∈ tw := tw_at 1157 (by decide +kernel) rfl
theorem kC_X5_333 : Cond.constant RX5 333 (-1000003) ∈ tw := tw_at 1245 (by decide +kernel) rfl
theorem kC_X5_334 : Cond.constant RX5 334 (-1000007) ∈ tw := tw_at 1250 (by decide +kernel) rfl
theorem kC_J6_265 : Cond.constant RJ6 265 (1431655765) ∈ tw := tw_at 416 (by decide +kernel) rfl
theorem kC_J6_266 : Cond.constant RJ6 266 (858993459) ∈ tw := tw_at 417 (by decide +kernel) rfl
theorem kC_J6_267 : Cond.constant RJ6 267 (252645135) ∈ tw := tw_at 418 (by decide +kernel) rfl
theorem kF_X4_10 : sg_FL RX4 10 4 0 := ⟨_, _, _, rfl, inX4, Nat.le_of_ble_eq_true rfl, tw_at 236 (by decide +kernel) rfl⟩
theorem kF_X4_16 : sg_FL RX4 16 4 1 := ⟨_, _, _, rfl, inX4, Nat.le_of_ble_eq_true rfl, tw_at 237 (by decide +kernel) rfl⟩
theorem kF_X4_19 : sg_FL RX4 19 4 2 := ⟨_, _, _, rfl, inX4, Nat.le_of_ble_eq_true rfl, tw_at 238 (by decide +kernel) rfl⟩
theorem kF_X4_22 : sg_FL RX4 22 4 3 := ⟨_, _, _, rfl, inX4, Nat.le_of_ble_eq_true rfl, tw_at 239 (by decide +kernel) rfl⟩
theorem fp_4_3 : sg_FP 4 3 .boolean := ⟨_, _, _, tyX4, rfl, tyX4_ok, nmX4, rfl, rfl⟩
theorem kF_X4_29 : sg_FL RX4 29 4 4 := ⟨_, _, _, rfl, inX4, Nat.le_of_ble_eq_true rfl, tw_at 240 (by decide +kernel) rfl⟩
theorem kF_X4_35 : sg_FL RX4 35 4 5 := ⟨_, _, _, rfl, inX4, Nat.le_of_ble_eq_true rfl, tw_at 241 (by decide +kernel) rfl⟩
theorem kF_X4_40 : sg_FL RX4 40 4 6 := ⟨_, _, _, rfl, inX4, Nat.le_of_ble_eq_true rfl, tw_at 242 (by decide +kernel) rfl⟩
theorem kF_X4_52 : sg_FL RX4 52 3 0 := ⟨_, _, _, rfl, inX3, Nat.le_of_ble_eq_true rfl, tw_at 104 (by decide +kernel) rfl⟩
theorem kF_X4_55 : sg_FL RX4 55 3 10 := ⟨_, _, _, rfl, inX3, Nat.le_of_ble_eq_true rfl, tw_at 124 (by decide +kernel) rfl⟩
theorem fp_3_10 : sg_FP 3 10 .int := ⟨_, _, _, tyX3, rfl, tyX3_ok, nmX3, rfl, rfl⟩
theorem kF_X4_67 : sg_FL RX4 67 3 11 := ⟨_, _, _, rfl, inX3, Nat.le_of_ble_eq_true rfl, tw_at 127 (by decide +kernel) rfl⟩
theorem fp_3_11 : sg_FP 3 11 .int := ⟨_, _, _, tyX3, rfl, tyX3_ok, nmX3, rfl, rfl⟩
theorem kF_X4_73 : sg_FL RX4 73 3 1 := ⟨_, _, _, rfl, inX3, Nat.le_of_ble_eq_true rfl, tw_at 107 (by decide +kernel) rfl⟩
theorem kF_X4_76 : sg_FL RX4 76 3 2 := ⟨_, _, _, rfl, inX3, Nat.le_of_ble_eq_true rfl, tw_at 109 (by decide +kernel) rfl⟩
theorem kF_X4_79 : sg_FL RX4 79 3 3 := ⟨_, _, _, rfl, inX3, Nat.le_of_ble_eq_true rfl, tw_at 111 (by decide +kernel) rfl⟩
theorem kF_X4_82 : sg_FL RX4 82 3 4 := ⟨_, _, _, rfl, inX3, Nat.le_of_ble_eq_true rfl, tw_at 113 (by decide +kernel) rfl⟩
theorem kF_X4_95 : sg_FL RX4 95 3 5 := ⟨_, _, _, rfl, inX3, Nat.le_of_ble_eq_true rfl, tw_at 115 (by decide +kernel) rfl⟩
theorem kF_X4_98 : sg_FL RX4 98 3 6 := ⟨_, _, _, rfl, inX3, Nat.le_of_ble_eq_true rfl, tw_at 117 (by decide +kernel) rfl⟩
theorem kF_X4_101 : sg_FL RX4 101 3 7 := ⟨_, _, _, rfl, inX3, Nat.le_of_ble_eq_true rfl, tw_at 119 (by decide +kernel) rfl⟩
theorem kF_X4_117 : sg_FL RX4 117 3 13 := ⟨_, _, _, rfl, inX3, Nat.le_of_ble_eq_true rfl, tw_at 132 (by decide +kernel) rfl⟩
theorem fp_3_13 : sg_FP 3 13 .int := ⟨_, _, _, tyX3, rfl, tyX3_ok, nmX3, rfl, rfl⟩
theorem kF_X4_125 : sg_FL RX4 125 3 12 := ⟨_, _, _, rfl, inX3, Nat.le_of_ble_eq_true rfl, tw_at 130 (by decide +kernel) rfl⟩
theorem fp_3_12 : sg_FP 3 12 .int := ⟨_, _, _, tyX3, rfl, tyX3_ok, nmX3, rfl, rfl⟩
theorem kF_X4_173 : sg_FL RX4 173 1 1 := ⟨_, _, _, rfl, inX1, Nat.le_of_ble_eq_true rfl, tw_at 226 (by decide +kernel) rfl⟩
theorem fp_1_1 : sg_FP 1 1 .int := ⟨_, _, _, tyX1, rfl, tyX1_ok, nmX1, rfl, rfl⟩
theorem kF_X4_183 : sg_FL RX4 183 1 2 := ⟨_, _, _, rfl, inX1, Nat.le_of_ble_eq_true rfl, tw_at 228 (by decide +kernel) rfl⟩
theorem fp_1_2 : sg_FP 1 2 .int := ⟨_, _, _, tyX1, rfl, tyX1_ok, nmX1, rfl, rfl⟩
theorem kF_X4_206 : sg_FL RX4 206 3 14 := ⟨_, _, _, rfl, inX3, Nat.le_of_ble_eq_true rfl, tw_at 134 (by decide +kernel) rfl⟩
theorem fp_3_14 : sg_FP 3 14 .int := ⟨_, _, _, tyX3, rfl, tyX3_ok, nmX3, rfl, rfl⟩
theorem kF_X4_209 : sg_FL RX4 209 0 0 := ⟨_, _, _, rfl, inX0, Nat.le_of_ble_eq_true rfl, tw_at 202 (by decide +kernel) rfl⟩
theorem kF_X4_213 : sg_FL RX4 213 2 1 := ⟨_, _, _, rfl, inX2, Nat.le_of_ble_eq_true rfl, tw_at 181 (by decide +kernel) rfl⟩
theorem fp_2_1 : sg_FP 2 1 .int := ⟨_, _, _, tyX2, rfl, tyX2_ok, nmX2, rfl, rfl⟩
theorem kF_X4_219 : sg_FL RX4 219 0 1 := ⟨_, _, _, rfl, inX0, Nat.le_of_ble_eq_true rfl, tw_at 204 (by decide +kernel) rfl⟩
theorem kF_X4_223 : sg_FL RX4 223 3 9 := ⟨_, _, _, rfl, inX3, Nat.le_of_ble_eq_true rfl, tw_at 122 (by decide +kernel) rfl⟩
theorem kF_X4_241 : sg_FL RX4 241 1 0 := ⟨_, _, _, rfl, inX1, Nat.le_of_ble_eq_true rfl, tw_at 224 (by decide +kernel) rfl⟩
theorem kF_X0_12 : sg_FL RX0 12 0 0 := ⟨_, _, _, rfl, inX0, Nat.le_of_ble_eq_true rfl, tw_at 201 (by decide +kernel) rfl⟩
theorem kF_X0_21 : sg_FL RX0 21 0 1 := ⟨_, _, _, rfl, inX0, Nat.le_of_ble_eq_true rfl, tw_at 203 (by decide +kernel) rfl⟩
theorem kF_X0_25 : sg_FL RX0 25 0 2 := ⟨_, _, _, rfl, inX0, Nat.le_of_ble_eq_true rfl, tw_at 205 (by decide +kernel) rfl⟩
theorem kF_X0_29 : sg_FL RX0 29 0 3 := ⟨_, _, _, rfl, inX0, Nat.le_of_ble_eq_true rfl, tw_at 206 (by decide +kernel) rfl⟩
theorem fp_0_3 : sg_FP 0 3 .int := ⟨_, _, _, tyX0, rfl, tyX0_ok, nmX0, rfl, rfl⟩
theorem kF_X0_40 : sg_FL RX0 40 2 2 := ⟨_, _, _, rfl, inX2, Nat.le_of_ble_eq_true rfl, tw_at 183 (by decide +kernel) rfl⟩
theorem kF_X0_46 : sg_FL RX0 46 2 3 := ⟨_, _, _, rfl, inX2, Nat.le_of_ble_eq_true rfl, tw_at 185 (by decide +kernel) rfl⟩
theorem kF_X0_49 : sg_FL RX0 49 2 4 := ⟨_, _, _, rfl, inX2, Nat.le_of_ble_eq_true rfl, tw_at 187 (by decide +kernel) rfl⟩
theorem kF_X0_69 : sg_FL RX0 69 3 10 := ⟨_, _, _, rfl, inX3, Nat.le_of_ble_eq_true rfl, tw_at 125 (by decide +kernel) rfl⟩
theorem kF_X0_79 : sg_FL RX0 79 3 11 := ⟨_, _, _, rfl, inX3, Nat.le_of_ble_eq_true rfl, tw_at 128 (by decide +kernel) rfl⟩
theorem kF_X0_89 : sg_FL RX0 89 3 0 := ⟨_, _, _, rfl, inX3, Nat.le_of_ble_eq_true rfl, tw_at 105 (by decide +kernel) rfl⟩
theorem kF_X1_9 : sg_FL RX1 9 1 0 := ⟨_, _, _, rfl, inX1, Nat.le_of_ble_eq_true rfl, tw_at 223 (by decide +kernel) rfl⟩
theorem kF_X1_15 : sg_FL RX1 15 1 1 := ⟨_, _, _, rfl, inX1, Nat.le_of_ble_eq_true rfl, tw_at 225 (by decide +kernel) rfl⟩
theorem kF_X1_19 : sg_FL RX1 19 1 2 := ⟨_, _, _, rfl, inX1, Nat.le_of_ble_eq_true rfl, tw_at 227 (by decide +kernel) rfl⟩
theorem kF_X2_9 : sg_FL RX2 9 2 0 := ⟨_, _, _, rfl, inX2, Nat.le_of_ble_eq_true rfl, tw_at 179 (by decide +kernel) rfl⟩
theorem kF_X2_15 : sg_FL RX2 15 2 1 := ⟨_, _, _, rfl, inX2, Nat.le_of_ble_eq_true rfl, tw_at 180 (by decide +kernel) rfl⟩
theorem kF_X2_19 : sg_FL RX2 19 2 2 := ⟨_, _, _, rfl, inX2, Nat.le_of_ble_eq_true rfl, tw_at 182 (by decide +kernel) rfl⟩
theorem kF_X2_22 : sg_FL RX2 22 2 3 := ⟨_, _, _, rfl, inX2, Nat.le_of_ble_eq_true rfl, tw_at 184 (by decide +kernel) rfl⟩
theorem kF_X2_25 : sg_FL RX2 25 2 4 := ⟨_, _, _, rfl, inX2, Nat.le_of_ble_eq_true rfl, tw_at 186 (by decide +kernel) rfl⟩
theorem kF_X3_9 : sg_FL RX3 9 3 0 := ⟨_, _, _, rfl, inX3, Nat.le_of_ble_eq_true rfl, tw_at 103 (by decide +kernel) rfl⟩
theorem kF_X3_21 : sg_FL RX3 21 3 1 := ⟨_, _, _, rfl, inX3, Nat.le_of_ble_eq_true rfl, tw_at 106 (by decide +kernel) rfl⟩
theorem kF_X3_24 : sg_FL RX3 24 3 2 := ⟨_, _, _, rfl, inX3, Nat.le_of_ble_eq_true rfl, tw_at 108 (by decide +kernel) rfl⟩
theorem kF_X3_27 : sg_FL RX3 27 3 3 := ⟨_, _, _, rfl, inX3, Nat.le_of_ble_eq_true rfl, tw_at 110 (by decide +kernel) rfl⟩
theorem kF_X3_30 : sg_FL RX3 30 3 4 := ⟨_, _, _, rfl, inX3, Nat.le_of_ble_eq_true rfl, tw_at 112 (by decide +kernel) rfl⟩
theorem kF_X3_33 : sg_FL RX3 33 3 5 := ⟨_, _, _, rfl, inX3, Nat.le_of_ble_eq_true rfl, tw_at 114 (by decide +kernel) rfl⟩
theorem kF_X3_36 : sg_FL RX3 36 3 6 := ⟨_, _, _, rfl, inX3, Nat.le_of_ble_eq_true rfl, tw_at 116 (by decide +kernel) rfl⟩
theorem kF_X3_39 : sg_FL RX3 39 3 7 := ⟨_, _, _, rfl, inX3, Nat.le_of_ble_eq_true rfl, tw_at 118 (by decide +kernel) rfl⟩
theorem kF_X3_42 : sg_FL RX3 42 3 8 := ⟨_, _, _, rfl, inX3, Nat.le_of_ble_eq_true rfl, tw_at 120 (by decide +kernel) rfl⟩
theorem kF_X3_45 : sg_FL RX3 45 3 9 := ⟨_, _, _, rfl, inX3, Nat.le_of_ble_eq_true rfl, tw_at 121 (by decide +kernel) rfl⟩
theorem kF_X3_48 : sg_FL RX3 48 3 10 := ⟨_, _, _, rfl, inX3, Nat.le_of_ble_eq_true rfl, tw_at 123 (by decide +kernel) rfl⟩
theorem kF_X3_52 : sg_FL RX3 52 3 11 := ⟨_, _, _, rfl, inX3, Nat.le_of_ble_eq_true rfl, tw_at 126 (by decide +kernel) rfl⟩
theorem kF_X3_55 : sg_FL RX3 55 3 12 := ⟨_, _, _, rfl, inX3, Nat.le_of_ble_eq_true rfl, tw_at 129 (by decide +kernel) rfl⟩
theorem kF_X3_58 : sg_FL RX3 58 3 13 := ⟨_, _, _, rfl, inX3, Nat.le_of_ble_eq_true rfl, tw_at 131 (by decide +kernel) rfl⟩
theorem kF_X3_61 : sg_FL RX3 61 3 14 := ⟨_, _, _, rfl, inX3, Nat.le_of_ble_eq_true rfl, tw_at 133 (by decide +kernel) rfl⟩
theorem kF_X5_9 : sg_FL RX5 9 5 0 := ⟨_, _, _, rfl, inX5, Nat.le_of_ble_eq_true rfl, tw_at 779 (by decide +kernel) rfl⟩
theorem kF_X5_13 : sg_FL RX5 13 5 1 := ⟨_, _, _, rfl, inX5, Nat.le_of_ble_eq_true rfl, tw_at 780 (by decide +kernel) rfl⟩
theorem kF_X5_16 : sg_FL RX5 16 5 2 := ⟨_, _, _, rfl, inX5, Nat.le_of_ble_eq_true rfl, tw_at 781 (by decide +kernel) rfl⟩
theorem kF_X5_19 : sg_FL RX5 19 5 4 := ⟨_, _, _, rfl, inX5, Nat.le_of_ble_eq_true rfl, tw_at 783 (by decide +kernel) rfl⟩
theorem kF_X5_22 : sg_FL RX5 22 5 5 := ⟨_, _, _, rfl, inX5, Nat.le_of_ble_eq_true rfl, tw_at 784 (by decide +kernel) rfl⟩
theorem kF_X5_41 : sg_FL RX5 41 5 12 := ⟨_, _, _, rfl, inX5, Nat.le_of_ble_eq_true rfl, tw_at 791 (by decide +kernel) rfl⟩
theorem kF_X5_45 : sg_FL RX5 45 5 13 := ⟨_, _, _, rfl, inX5, Nat.le_of_ble_eq_true rfl, tw_at 792 (by decide +kernel) rfl⟩
theorem kF_X5_48 : sg_FL RX5 48 5 17 := ⟨_, _, _, rfl, inX5, Nat.le_of_ble_eq_true rfl, tw_at 796 (by decide +kernel) rfl⟩
theorem kF_X5_51 : sg_FL RX5 51 5 18 := ⟨_, _, _, rfl, inX5, Nat.le_of_ble_eq_true rfl, tw_at 797 (by decide +kernel) rfl⟩
theorem kF_X5_54 : sg_FL RX5 54 5 19 := ⟨_, _, _, rfl, inX5, Nat.le_of_ble_eq_true rfl, tw_at 798 (by decide +kernel) rfl⟩
theorem kF_X5_57 : sg_FL RX5 57 5 20 := ⟨_, _, _, rfl, inX5, Nat.le_of_ble_eq_true rfl, tw_at 799 (by decide +kernel) rfl⟩
theorem kF_X5_247 : sg_FL RX5 247 5 6 := ⟨_, _, _, rfl, inX5, Nat.le_of_ble_eq_true rfl, tw_at 785 (by decide +kernel) rfl⟩
theorem fp_5_6 : sg_FP 5 6 .int := ⟨_, _, _, tyX5, rfl, tyX5_ok, nmX5, rfl, rfl⟩
theorem kF_X5_251 : sg_FL RX5 251 5 8 := ⟨_, _, _, rfl, inX5, Nat.le_of_ble_eq_true rfl, tw_at 787 (by decide +kernel) rfl⟩
theorem fp_5_8 : sg_FP 5 8 .int := ⟨_, _, _, tyX5, rfl, tyX5_ok, nmX5, rfl, rfl⟩
theorem kF_X5_254 : sg_FL RX5 254 5 7 := ⟨_, _, _, rfl, inX5, Nat.le_of_ble_eq_true rfl, tw_at 786 (by decide +kernel) rfl⟩
theorem fp_5_7 : sg_FP 5 7 .int := ⟨_, _, _, tyX5, rfl, tyX5_ok, nmX5, rfl, rfl⟩
theorem kF_X5_260 : sg_FL RX5 260 5 10 := ⟨_, _, _, rfl, inX5, Nat.le_of_ble_eq_true rfl, tw_at 789 (by decide +kernel) rfl⟩
theorem fp_5_10 : sg_FP 5 10 .int := ⟨_, _, _, tyX5, rfl, tyX5_ok, nmX5, rfl, rfl⟩
theorem kF_X5_263 : sg_FL RX5 263 5 9 := ⟨_, _, _, rfl, inX5, Nat.le_of_ble_eq_true rfl, tw_at 788 (by decide +kernel) rfl⟩
theorem fp_5_9 : sg_FP 5 9 .int := ⟨_, _, _, tyX5, rfl, tyX5_ok, nmX5, rfl, rfl⟩
theorem kF_X5_273 : sg_FL RX5 273 5 11 := ⟨_, _, _, rfl, inX5, Nat.le_of_ble_eq_true rfl, tw_at 790 (by decide +kernel) rfl⟩
theorem fp_5_11 : sg_FP 5 11 .boolean := ⟨_, _, _, tyX5, rfl, tyX5_ok, nmX5, rfl, rfl⟩
theorem kF_X5_284 : sg_FL RX5 284 5 14 := ⟨_, _, _, rfl, inX5, Nat.le_of_ble_eq_true rfl, tw_at 793 (by decide +kernel) rfl⟩
theorem fp_5_14 : sg_FP 5 14 .int := ⟨_, _, _, tyX5, rfl, tyX5_ok, nmX5, rfl, rfl⟩
theorem kF_X5_291 : sg_FL RX5 291 5 15 := ⟨_, _, _, rfl, inX5, Nat.le_of_ble_eq_true rfl, tw_at 794 (by decide +kernel) rfl⟩
theorem fp_5_15 : sg_FP 5 15 .int := ⟨_, _, _, tyX5, rfl, tyX5_ok, nmX5, rfl, rfl⟩
theorem kF_X5_308 : sg_FL RX5 308 5 16 := ⟨_, _, _, rfl, inX5, Nat.le_of_ble_eq_true rfl, tw_at 795 (by decide +kernel) rfl⟩
theorem fp_5_16 : sg_FP 5 16 .int := ⟨_, _, _, tyX5, rfl, tyX5_ok, nmX5, rfl, rfl⟩
theorem kF_X5_341 : sg_FL RX5 341 5 3 := ⟨_, _, _, rfl, inX5, Nat.le_of_ble_eq_true rfl, tw_at 782 (by decide +kernel) rfl⟩
theorem fp_5_3 : sg_FP 5 3 .boolean := ⟨_, _, _, tyX5, rfl, tyX5_ok, nmX5, rfl, rfl⟩
theorem kG_J0_9 : Cond.fieldLink RJ0 9 "java/lang/String" "value" "[B" ∈ tw := tw_at 1290 (by decide +kernel) rfl
theorem kG_J0_15 : Cond.fieldLink RJ0 15 "java/lang/String" "coder" "B" ∈ tw := tw_at 1291 (by decide +kernel) rfl
theorem kG_J0_38 : Cond.fieldLink RJ0 38 "java/lang/String" "COMPACT_STRINGS" "Z" ∈ tw := tw_at 606 (by decide +kernel) rfl
theorem kG_J0_1053 : Cond.fieldLink RJ0 1053 "jdk/internal/util/Preconditions" "SIOOBE_FORMATTER" "Ljava/util/function/BiFunction;" ∈ tw := tw_at 622 (by decide +kernel) rfl
theorem kS_X4_44 : sg_LS RX4 44 yX4_within mX4_within 2 := ⟨tw_at 262 (by decide +kernel) rfl, tw_at 263 (by decide +kernel) rfl, tw_at 72 (by decide +kernel) rfl, tw_at 264 (by decide +kernel) rfl, by decide +kernel⟩
theorem kS_X4_158 : sg_LS RX4 158 yJ6_bitCount_0f7a4 mJ6_bitCount_0f7a4 1 := ⟨tw_at 477 (by decide +kernel) rfl, tw_at 414 (by decide +kernel) rfl, tw_at 80 (by decide +kernel) rfl, tw_at 415 (by decide +kernel) rfl, by decide +kernel⟩
theorem kS_X4_199 : sg_LS RX4 199 yX4_inLowestTerms mX4_inLowestTerms 3 := ⟨tw_at 541 (by decide +kernel) rfl, tw_at 542 (by decide +kernel) rfl, tw_at 72 (by decide +kernel) rfl, tw_at 543 (by decide +kernel) rfl, by decide +kernel⟩
theorem kS_X4_202 : sg_LS RX4 202 yX4_power mX4_power 2 := ⟨tw_at 544 (by decide +kernel) rfl, tw_at 545 (by decide +kernel) rfl, tw_at 72 (by decide +kernel) rfl, tw_at 546 (by decide +kernel) rfl, by decide +kernel⟩
theorem kS_X4_226 : sg_LS RX4 226 yX4_isUnder mX4_isUnder 2 := ⟨tw_at 699 (by decide +kernel) rfl, tw_at 700 (by decide +kernel) rfl, tw_at 72 (by decide +kernel) rfl, tw_at 701 (by decide +kernel) rfl, by decide +kernel⟩
theorem kS_X4_229 : sg_LS RX4 229 yX4_kindAbove mX4_kindAbove 1 := ⟨tw_at 702 (by decide +kernel) rfl, tw_at 703 (by decide +kernel) rfl, tw_at 72 (by decide +kernel) rfl, tw_at 704 (by decide +kernel) rfl, by decide +kernel⟩
theorem kA_X4_244 : Cond.methodLink RX4 244 arraycopyName ∈ tw := tw_at 730 (by decide +kernel) rfl
theorem kS_X4_250 : sg_LS RX4 250 yJ9_min_7cf53 mJ9_min_7cf53 2 := ⟨tw_at 735 (by decide +kernel) rfl, tw_at 398 (by decide +kernel) rfl, tw_at 79 (by decide +kernel) rfl, tw_at 399 (by decide +kernel) rfl, by decide +kernel⟩
theorem kS_X1_22 : sg_LS RX1 22 yJ7_fill_53178 mJ7_fill_53178 2 := ⟨tw_at 713 (by decide +kernel) rfl, tw_at 101 (by decide +kernel) rfl, tw_at 74 (by decide +kernel) rfl, tw_at 102 (by decide +kernel) rfl, by decide +kernel⟩
theorem kS_X2_40 : sg_LS RX2 40 yX2_isLetter mX2_isLetter 1 := ⟨tw_at 579 (by decide +kernel) rfl, tw_at 580 (by decide +kernel) rfl, tw_at 76 (by decide +kernel) rfl, tw_at 581 (by decide +kernel) rfl, by decide +kernel⟩
theorem kS_X2_43 : sg_LS RX2 43 yX2_isDigit mX2_isDigit 1 := ⟨tw_at 582 (by decide +kernel) rfl, tw_at 583 (by decide +kernel) rfl, tw_at 76 (by decide +kernel) rfl, tw_at 584 (by decide +kernel) rfl, by decide +kernel⟩
theorem kS_X2_53 : sg_LS RX2 53 yJ9_min_7cf53 mJ9_min_7cf53 2 := ⟨tw_at 654 (by decide +kernel) rfl, tw_at 398 (by decide +kernel) rfl, tw_at 79 (by decide +kernel) rfl, tw_at 399 (by decide +kernel) rfl, by decide +kernel⟩
theorem kA_X3_64 : Cond.methodLink RX3 64 arraycopyName ∈ tw := tw_at 452 (by decide +kernel) rfl
theorem kS_X3_107 : sg_LS RX3 107 yJ9_min_7cf53 mJ9_min_7cf53 2 := ⟨tw_at 397 (by decide +kernel) rfl, tw_at 398 (by decide +kernel) rfl, tw_at 79 (by decide +kernel) rfl, tw_at 399 (by decide +kernel) rfl, by decide +kernel⟩
theorem kS_X3_129 : sg_LS RX3 129 yJ6_bitCount_0f7a4 mJ6_bitCount_0f7a4 1 := ⟨tw_at 413 (by decide +kernel) rfl, tw_at 414 (by decide +kernel) rfl, tw_at 80 (by decide +kernel) rfl, tw_at 415 (by decide +kernel) rfl, by decide +kernel⟩
theorem kS_X5_61 : sg_LS RX5 61 yX5_copyRow mX5_copyRow 2 := ⟨tw_at 1063 (by decide +kernel) rfl, tw_at 1064 (by decide +kernel) rfl, tw_at 78 (by decide +kernel) rfl, tw_at 1065 (by decide +kernel) rfl, by decide +kernel⟩
theorem kS_X5_70 : sg_LS RX5 70 yX5_within mX5_within 3 := ⟨tw_at 850 (by decide +kernel) rfl, tw_at 851 (by decide +kernel) rfl, tw_at 78 (by decide +kernel) rfl, tw_at 852 (by decide +kernel) rfl, by decide +kernel⟩
theorem kS_X5_74 : sg_LS RX5 74 yX5_isPlace mX5_isPlace 1 := ⟨tw_at 847 (by decide +kernel) rfl, tw_at 848 (by decide +kernel) rfl, tw_at 78 (by decide +kernel) rfl, tw_at 849 (by decide +kernel) rfl, by decide +kernel⟩
theorem kS_X5_78 : sg_LS RX5 78 yX5_isOne mX5_isOne 1 := ⟨tw_at 853 (by decide +kernel) rfl, tw_at 854 (by decide +kernel) rfl, tw_at 78 (by decide +kernel) rfl, tw_at 855 (by decide +kernel) rfl, by decide +kernel⟩
theorem kS_X5_85 : sg_LS RX5 85 yX5_personAt mX5_personAt 2 := ⟨tw_at 884 (by decide +kernel) rfl, tw_at 885 (by decide +kernel) rfl, tw_at 78 (by decide +kernel) rfl, tw_at 886 (by decide +kernel) rfl, by decide +kernel⟩
theorem kS_X5_88 : sg_LS RX5 88 yX5_sayingAt mX5_sayingAt 2 := ⟨tw_at 899 (by decide +kernel) rfl, tw_at 900 (by decide +kernel) rfl, tw_at 78 (by decide +kernel) rfl, tw_at 901 (by decide +kernel) rfl, by decide +kernel⟩
theorem kS_X5_91 : sg_LS RX5 91 yX5_isKind mX5_isKind 1 := ⟨tw_at 873 (by decide +kernel) rfl, tw_at 874 (by decide +kernel) rfl, tw_at 78 (by decide +kernel) rfl, tw_at 875 (by decide +kernel) rfl, by decide +kernel⟩
theorem kS_X5_94 : sg_LS RX5 94 yX5_isNine mX5_isNine 1 := ⟨tw_at 876 (by decide +kernel) rfl, tw_at 877 (by decide +kernel) rfl, tw_at 78 (by decide +kernel) rfl, tw_at 878 (by decide +kernel) rfl, by decide +kernel⟩
theorem kS_X5_128 : sg_LS RX5 128 yX5_isField mX5_isField 2 := ⟨tw_at 934 (by decide +kernel) rfl, tw_at 935 (by decide +kernel) rfl, tw_at 78 (by decide +kernel) rfl, tw_at 936 (by decide +kernel) rfl, by decide +kernel⟩
theorem kS_X5_153 : sg_LS RX5 153 yJ9_min_7cf53 mJ9_min_7cf53 2 := ⟨tw_at 1019 (by decide +kernel) rfl, tw_at 398 (by decide +kernel) rfl, tw_at 79 (by decide +kernel) rfl, tw_at 399 (by decide +kernel) rfl, by decide +kernel⟩
theorem kS_X5_158 : sg_LS RX5 158 yX5_greatest mX5_greatest 1 := ⟨tw_at 1008 (by decide +kernel) rfl, tw_at 1009 (by decide +kernel) rfl, tw_at 78 (by decide +kernel) rfl, tw_at 1010 (by decide +kernel) rfl, by decide +kernel⟩
theorem kS_X5_186 : sg_LS RX5 186 yX5_bits mX5_bits 1 := ⟨tw_at 1032 (by decide +kernel) rfl, tw_at 1033 (by decide +kernel) rfl, tw_at 78 (by decide +kernel) rfl, tw_at 1034 (by decide +kernel) rfl, by decide +kernel⟩
theorem kS_X5_222 : sg_LS RX5 222 yX5_isThought mX5_isThought 1 := ⟨tw_at 1102 (by decide +kernel) rfl, tw_at 1103 (by decide +kernel) rfl, tw_at 78 (by decide +kernel) rfl, tw_at 1104 (by decide +kernel) rfl, by decide +kernel⟩
theorem kS_X5_232 : sg_LS RX5 232 yX5_isSheet mX5_isSheet 1 := ⟨tw_at 1137 (by decide +kernel) rfl, tw_at 1138 (by decide +kernel) rfl, tw_at 78 (by decide +kernel) rfl, tw_at 1139 (by decide +kernel) rfl, by decide +kernel⟩
theorem kS_X5_327 : sg_LS RX5 327 yX5_isSpot mX5_isSpot 1 := ⟨tw_at 1232 (by decide +kernel) rfl, tw_at 1233 (by decide +kernel) rfl, tw_at 78 (by decide +kernel) rfl, tw_at 1234 (by decide +kernel) rfl, by decide +kernel⟩
theorem kS_X5_330 : sg_LS RX5 330 yX5_isUnder mX5_isUnder 2 := ⟨tw_at 1239 (by decide +kernel) rfl, tw_at 1240 (by decide +kernel) rfl, tw_at 78 (by decide +kernel) rfl, tw_at 1241 (by decide +kernel) rfl, by decide +kernel⟩
theorem kS_X5_335 : sg_LS RX5 335 yX5_cutTo mX5_cutTo 2 := ⟨tw_at 1255 (by decide +kernel) rfl, tw_at 1256 (by decide +kernel) rfl, tw_at 78 (by decide +kernel) rfl, tw_at 1257 (by decide +kernel) rfl, by decide +kernel⟩
theorem kS_X5_338 : sg_LS RX5 338 yX5_above mX5_above 1 := ⟨tw_at 1242 (by decide +kernel) rfl, tw_at 1243 (by decide +kernel) rfl, tw_at 78 (by decide +kernel) rfl, tw_at 1244 (by decide +kernel) rfl, by decide +kernel⟩
theorem kS_J0_495 : sg_LS RJ0 495 yJ1_charAt_3b067 mJ1_charAt_3b067 2 := ⟨tw_at 616 (by decide +kernel) rfl, tw_at 617 (by decide +kernel) rfl, tw_at 83 (by decide +kernel) rfl, tw_at 618 (by decide +kernel) rfl, by decide +kernel⟩
theorem kS_J0_498 : sg_LS RJ0 498 yJ2_charAt_3b067 mJ2_charAt_3b067 2 := ⟨tw_at 627 (by decide +kernel) rfl, tw_at 628 (by decide +kernel) rfl, tw_at 85 (by decide +kernel) rfl, tw_at 629 (by decide +kernel) rfl, by decide +kernel⟩
theorem kS_J0_1059 : sg_LS RJ0 1059 yJ3_checkIndex_8e157 mJ3_checkIndex_8e157 3 := ⟨tw_at 624 (by decide +kernel) rfl, tw_at 625 (by decide +kernel) rfl, tw_at 84 (by decide +kernel) rfl, tw_at 626 (by decide +kernel) rfl, by decide +kernel⟩
theorem kS_J1_9 : sg_LS RJ1 9 yJ0_checkIndex_df160 mJ0_checkIndex_df160 2 := ⟨tw_at 619 (by decide +kernel) rfl, tw_at 620 (by decide +kernel) rfl, tw_at 82 (by decide +kernel) rfl, tw_at 621 (by decide +kernel) rfl, by decide +kernel⟩
theorem kV_X4_48 : sg_LV RX4 48 RX4 yX4_finding mX4_finding 1 := ⟨tw_at 265 (by decide +kernel) rfl, tw_at 267 (by decide +kernel) rfl, tw_at 0 (by decide +kernel) rfl, tw_at 72 (by decide +kernel) rfl, tw_at 268 (by decide +kernel) rfl, by decide +kernel⟩
theorem kV_X4_59 : sg_LV RX4 59 RX3 yX3_settle mX3_settle 3 := ⟨tw_at 278 (by decide +kernel) rfl, tw_at 279 (by decide +kernel) rfl, tw_at 280 (by decide +kernel) rfl, tw_at 73 (by decide +kernel) rfl, tw_at 281 (by decide +kernel) rfl, by decide +kernel⟩
theorem kV_X4_63 : sg_LV RX4 63 RX3 yX3_isPerson mX3_isPerson 1 := ⟨tw_at 286 (by decide +kernel) rfl, tw_at 287 (by decide +kernel) rfl, tw_at 288 (by decide +kernel) rfl, tw_at 73 (by decide +kernel) rfl, tw_at 289 (by decide +kernel) rfl, by decide +kernel⟩
theorem kV_X4_70 : sg_LV RX4 70 RX3 yX3_putAbout mX3_putAbout 3 := ⟨tw_at 290 (by decide +kernel) rfl, tw_at 291 (by decide +kernel) rfl, tw_at 292 (by decide +kernel) rfl, tw_at 73 (by decide +kernel) rfl, tw_at 293 (by decide +kernel) rfl, by decide +kernel⟩
theorem kV_X4_85 : sg_LV RX4 85 RX3 yX3_heardBy mX3_heardBy 1 := ⟨tw_at 302 (by decide +kernel) rfl, tw_at 303 (by decide +kernel) rfl, tw_at 304 (by decide +kernel) rfl, tw_at 73 (by decide +kernel) rfl, tw_at 305 (by decide +kernel) rfl, by decide +kernel⟩
theorem kV_X4_88 : sg_LV RX4 88 RX4 yX4_exchange mX4_exchange 4 := ⟨tw_at 314 (by decide +kernel) rfl, tw_at 316 (by decide +kernel) rfl, tw_at 1 (by decide +kernel) rfl, tw_at 72 (by decide +kernel) rfl, tw_at 317 (by decide +kernel) rfl, by decide +kernel⟩
theorem kV_X4_92 : sg_LV RX4 92 RX3 yX3_isSaying mX3_isSaying 1 := ⟨tw_at 322 (by decide +kernel) rfl, tw_at 323 (by decide +kernel) rfl, tw_at 324 (by decide +kernel) rfl, tw_at 73 (by decide +kernel) rfl, tw_at 325 (by decide +kernel) rfl, by decide +kernel⟩
theorem kV_X4_104 : sg_LV RX4 104 RX3 yX3_hasHeard mX3_hasHeard 2 := ⟨tw_at 334 (by decide +kernel) rfl, tw_at 307 (by decide +kernel) rfl, tw_at 308 (by decide +kernel) rfl, tw_at 73 (by decide +kernel) rfl, tw_at 309 (by decide +kernel) rfl, by decide +kernel⟩
theorem kV_X4_107 : sg_LV RX4 107 RX3 yX3_source mX3_source 2 := ⟨tw_at 335 (by decide +kernel) rfl, tw_at 336 (by decide +kernel) rfl, tw_at 337 (by decide +kernel) rfl, tw_at 73 (by decide +kernel) rfl, tw_at 338 (by decide +kernel) rfl, by decide +kernel⟩
theorem kV_X4_111 : sg_LV RX4 111 RX3 yX3_trace mX3_trace 2 := ⟨tw_at 343 (by decide +kernel) rfl, tw_at 344 (by decide +kernel) rfl, tw_at 345 (by decide +kernel) rfl, tw_at 73 (by decide +kernel) rfl, tw_at 346 (by decide +kernel) rfl, by decide +kernel⟩
theorem kV_X4_114 : sg_LV RX4 114 RX3 yX3_passOn mX3_passOn 2 := ⟨tw_at 353 (by decide +kernel) rfl, tw_at 354 (by decide +kernel) rfl, tw_at 355 (by decide +kernel) rfl, tw_at 73 (by decide +kernel) rfl, tw_at 356 (by decide +kernel) rfl, by decide +kernel⟩
theorem kV_X4_121 : sg_LV RX4 121 RX3 yX3_passDays mX3_passDays 1 := ⟨tw_at 374 (by decide +kernel) rfl, tw_at 375 (by decide +kernel) rfl, tw_at 376 (by decide +kernel) rfl, tw_at 73 (by decide +kernel) rfl, tw_at 377 (by decide +kernel) rfl, by decide +kernel⟩
theorem kV_X4_128 : sg_LV RX4 128 RX3 yX3_hearings mX3_hearings 0 := ⟨tw_at 409 (by decide +kernel) rfl, tw_at 410 (by decide +kernel) rfl, tw_at 411 (by decide +kernel) rfl, tw_at 73 (by decide +kernel) rfl, tw_at 412 (by decide +kernel) rfl, by decide +kernel⟩
theorem kV_X4_132 : sg_LV RX4 132 RX3 yX3_knownToAll mX3_knownToAll 0 := ⟨tw_at 419 (by decide +kernel) rfl, tw_at 420 (by decide +kernel) rfl, tw_at 421 (by decide +kernel) rfl, tw_at 73 (by decide +kernel) rfl, tw_at 422 (by decide +kernel) rfl, by decide +kernel⟩
theorem kV_X4_135 : sg_LV RX4 135 RX3 yX3_blames mX3_blames 0 := ⟨tw_at 427 (by decide +kernel) rfl, tw_at 428 (by decide +kernel) rfl, tw_at 429 (by decide +kernel) rfl, tw_at 73 (by decide +kernel) rfl, tw_at 430 (by decide +kernel) rfl, by decide +kernel⟩
theorem kV_X4_138 : sg_LV RX4 138 RX3 yX3_mostBlamed mX3_mostBlamed 0 := ⟨tw_at 431 (by decide +kernel) rfl, tw_at 432 (by decide +kernel) rfl, tw_at 433 (by decide +kernel) rfl, tw_at 73 (by decide +kernel) rfl, tw_at 434 (by decide +kernel) rfl, by decide +kernel⟩
theorem kV_X4_141 : sg_LV RX4 141 RX3 yX3_innocent mX3_innocent 0 := ⟨tw_at 435 (by decide +kernel) rfl, tw_at 436 (by decide +kernel) rfl, tw_at 437 (by decide +kernel) rfl, tw_at 73 (by decide +kernel) rfl, tw_at 438 (by decide +kernel) rfl, by decide +kernel⟩
theorem kV_X4_144 : sg_LV RX4 144 RX3 yX3_untraceable mX3_untraceable 0 := ⟨tw_at 440 (by decide +kernel) rfl, tw_at 441 (by decide +kernel) rfl, tw_at 442 (by decide +kernel) rfl, tw_at 73 (by decide +kernel) rfl, tw_at 443 (by decide +kernel) rfl, by decide +kernel⟩
theorem kV_X4_147 : sg_LV RX4 147 RX3 yX3_become mX3_become 1 := ⟨tw_at 448 (by decide +kernel) rfl, tw_at 449 (by decide +kernel) rfl, tw_at 450 (by decide +kernel) rfl, tw_at 73 (by decide +kernel) rfl, tw_at 451 (by decide +kernel) rfl, by decide +kernel⟩
theorem kV_X4_151 : sg_LV RX4 151 RX3 yX3_passDay mX3_passDay 0 := ⟨tw_at 463 (by decide +kernel) rfl, tw_at 379 (by decide +kernel) rfl, tw_at 380 (by decide +kernel) rfl, tw_at 73 (by decide +kernel) rfl, tw_at 381 (by decide +kernel) rfl, by decide +kernel⟩
theorem kV_X4_154 : sg_LV RX4 154 RX3 yX3_begin mX3_begin 2 := ⟨tw_at 476 (by decide +kernel) rfl, tw_at 295 (by decide +kernel) rfl, tw_at 296 (by decide +kernel) rfl, tw_at 73 (by decide +kernel) rfl, tw_at 297 (by decide +kernel) rfl, by decide +kernel⟩
theorem kV_X4_163 : sg_LV RX4 163 RX3 yX3_everybody mX3_everybody 0 := ⟨tw_at 490 (by decide +kernel) rfl, tw_at 424 (by decide +kernel) rfl, tw_at 425 (by decide +kernel) rfl, tw_at 73 (by decide +kernel) rfl, tw_at 426 (by decide +kernel) rfl, by decide +kernel⟩
theorem kV_X4_166 : sg_LV RX4 166 RX4 yX4_keepsFrom mX4_keepsFrom 4 := ⟨tw_at 495 (by decide +kernel) rfl, tw_at 497 (by decide +kernel) rfl, tw_at 2 (by decide +kernel) rfl, tw_at 72 (by decide +kernel) rfl, tw_at 498 (by decide +kernel) rfl, by decide +kernel⟩
theorem kV_X4_170 : sg_LV RX4 170 RX3 yX3_silence mX3_silence 1 := ⟨tw_at 499 (by decide +kernel) rfl, tw_at 500 (by decide +kernel) rfl, tw_at 501 (by decide +kernel) rfl, tw_at 73 (by decide +kernel) rfl, tw_at 502 (by decide +kernel) rfl, by decide +kernel⟩
theorem kV_X4_176 : sg_LV RX4 176 RX3 yX3_listToday mX3_listToday 2 := ⟨tw_at 507 (by decide +kernel) rfl, tw_at 508 (by decide +kernel) rfl, tw_at 509 (by decide +kernel) rfl, tw_at 73 (by decide +kernel) rfl, tw_at 510 (by decide +kernel) rfl, by decide +kernel⟩
theorem kV_X4_179 : sg_LV RX4 179 RX4 yX4_hearersAreAsTold mX4_hearersAreAsTold 2 := ⟨tw_at 511 (by decide +kernel) rfl, tw_at 513 (by decide +kernel) rfl, tw_at 3 (by decide +kernel) rfl, tw_at 72 (by decide +kernel) rfl, tw_at 514 (by decide +kernel) rfl, by decide +kernel⟩
theorem kV_X4_186 : sg_LV RX4 186 RX1 yX1_allows mX1_allows 2 := ⟨tw_at 515 (by decide +kernel) rfl, tw_at 516 (by decide +kernel) rfl, tw_at 517 (by decide +kernel) rfl, tw_at 77 (by decide +kernel) rfl, tw_at 518 (by decide +kernel) rfl, by decide +kernel⟩
theorem kV_X4_189 : sg_LV RX4 189 RX4 yX4_sayingsAreAsTold mX4_sayingsAreAsTold 2 := ⟨tw_at 523 (by decide +kernel) rfl, tw_at 525 (by decide +kernel) rfl, tw_at 4 (by decide +kernel) rfl, tw_at 72 (by decide +kernel) rfl, tw_at 526 (by decide +kernel) rfl, by decide +kernel⟩
theorem kV_X4_192 : sg_LV RX4 192 RX3 yX3_draw mX3_draw 0 := ⟨tw_at 531 (by decide +kernel) rfl, tw_at 532 (by decide +kernel) rfl, tw_at 533 (by decide +kernel) rfl, tw_at 73 (by decide +kernel) rfl, tw_at 534 (by decide +kernel) rfl, by decide +kernel⟩
theorem kV_X4_195 : sg_LV RX4 195 RX3 yX3_wouldBelieve mX3_wouldBelieve 3 := ⟨tw_at 540 (by decide +kernel) rfl, tw_at 362 (by decide +kernel) rfl, tw_at 363 (by decide +kernel) rfl, tw_at 73 (by decide +kernel) rfl, tw_at 364 (by decide +kernel) rfl, by decide +kernel⟩
theorem kV_X4_216 : sg_LV RX4 216 RX2 yX2_append mX2_append 1 := ⟨tw_at 555 (by decide +kernel) rfl, tw_at 556 (by decide +kernel) rfl, tw_at 557 (by decide +kernel) rfl, tw_at 76 (by decide +kernel) rfl, tw_at 558 (by decide +kernel) rfl, by decide +kernel⟩
theorem kV_X4_220 : sg_LV RX4 220 RX0 yX0_readTape mX0_readTape 0 := ⟨tw_at 567 (by decide +kernel) rfl, tw_at 568 (by decide +kernel) rfl, tw_at 569 (by decide +kernel) rfl, tw_at 75 (by decide +kernel) rfl, tw_at 570 (by decide +kernel) rfl, by decide +kernel⟩
theorem kV_X4_232 : sg_LV RX4 232 RX1 yX1_renew mX1_renew 2 := ⟨tw_at 709 (by decide +kernel) rfl, tw_at 710 (by decide +kernel) rfl, tw_at 711 (by decide +kernel) rfl, tw_at 77 (by decide +kernel) rfl, tw_at 712 (by decide +kernel) rfl, by decide +kernel⟩
theorem kV_X4_235 : sg_LV RX4 235 RX1 yX1_put mX1_put 2 := ⟨tw_at 718 (by decide +kernel) rfl, tw_at 719 (by decide +kernel) rfl, tw_at 720 (by decide +kernel) rfl, tw_at 77 (by decide +kernel) rfl, tw_at 721 (by decide +kernel) rfl, by decide +kernel⟩
theorem kV_X4_238 : sg_LV RX4 238 RX1 yX1_has mX1_has 2 := ⟨tw_at 726 (by decide +kernel) rfl, tw_at 727 (by decide +kernel) rfl, tw_at 728 (by decide +kernel) rfl, tw_at 77 (by decide +kernel) rfl, tw_at 729 (by decide +kernel) rfl, by decide +kernel⟩
theorem kV_X4_255 : sg_LV RX4 255 RX3 yX3_spotsHeld mX3_spotsHeld 0 := ⟨tw_at 756 (by decide +kernel) rfl, tw_at 757 (by decide +kernel) rfl, tw_at 758 (by decide +kernel) rfl, tw_at 73 (by decide +kernel) rfl, tw_at 759 (by decide +kernel) rfl, by decide +kernel⟩
theorem kV_X0_33 : sg_LV RX0 33 RX2 yX2_cut mX2_cut 0 := ⟨tw_at 571 (by decide +kernel) rfl, tw_at 572 (by decide +kernel) rfl, tw_at 573 (by decide +kernel) rfl, tw_at 76 (by decide +kernel) rfl, tw_at 574 (by decide +kernel) rfl, by decide +kernel⟩
theorem kV_X0_36 : sg_LV RX0 36 RX0 yX0_readItem mX0_readItem 0 := ⟨tw_at 655 (by decide +kernel) rfl, tw_at 657 (by decide +kernel) rfl, tw_at 11 (by decide +kernel) rfl, tw_at 75 (by decide +kernel) rfl, tw_at 658 (by decide +kernel) rfl, by decide +kernel⟩
theorem kV_X0_43 : sg_LV RX0 43 RX0 yX0_step mX0_step 0 := ⟨tw_at 671 (by decide +kernel) rfl, tw_at 673 (by decide +kernel) rfl, tw_at 15 (by decide +kernel) rfl, tw_at 75 (by decide +kernel) rfl, tw_at 674 (by decide +kernel) rfl, by decide +kernel⟩
theorem kV_X0_52 : sg_LV RX0 52 RX0 yX0_isWord mX0_isWord 1 := ⟨tw_at 659 (by decide +kernel) rfl, tw_at 661 (by decide +kernel) rfl, tw_at 12 (by decide +kernel) rfl, tw_at 75 (by decide +kernel) rfl, tw_at 662 (by decide +kernel) rfl, by decide +kernel⟩
theorem kV_X0_56 : sg_LV RX0 56 RX0 yX0_readSaying mX0_readSaying 0 := ⟨tw_at 663 (by decide +kernel) rfl, tw_at 665 (by decide +kernel) rfl, tw_at 13 (by decide +kernel) rfl, tw_at 75 (by decide +kernel) rfl, tw_at 666 (by decide +kernel) rfl, by decide +kernel⟩
theorem kV_X0_59 : sg_LV RX0 59 RX0 yX0_readTalk mX0_readTalk 0 := ⟨tw_at 680 (by decide +kernel) rfl, tw_at 682 (by decide +kernel) rfl, tw_at 17 (by decide +kernel) rfl, tw_at 75 (by decide +kernel) rfl, tw_at 683 (by decide +kernel) rfl, by decide +kernel⟩
theorem kV_X0_66 : sg_LV RX0 66 RX0 yX0_readPerson mX0_readPerson 1 := ⟨tw_at 685 (by decide +kernel) rfl, tw_at 687 (by decide +kernel) rfl, tw_at 18 (by decide +kernel) rfl, tw_at 75 (by decide +kernel) rfl, tw_at 688 (by decide +kernel) rfl, by decide +kernel⟩
theorem kV_X0_72 : sg_LV RX0 72 RX0 yX0_isNumber mX0_isNumber 1 := ⟨tw_at 675 (by decide +kernel) rfl, tw_at 677 (by decide +kernel) rfl, tw_at 16 (by decide +kernel) rfl, tw_at 75 (by decide +kernel) rfl, tw_at 678 (by decide +kernel) rfl, by decide +kernel⟩
theorem kV_X0_75 : sg_LV RX0 75 RX3 yX3_settle mX3_settle 3 := ⟨tw_at 689 (by decide +kernel) rfl, tw_at 279 (by decide +kernel) rfl, tw_at 280 (by decide +kernel) rfl, tw_at 73 (by decide +kernel) rfl, tw_at 281 (by decide +kernel) rfl, by decide +kernel⟩
theorem kV_X0_82 : sg_LV RX0 82 RX0 yX0_readNumbers mX0_readNumbers 3 := ⟨tw_at 667 (by decide +kernel) rfl, tw_at 669 (by decide +kernel) rfl, tw_at 14 (by decide +kernel) rfl, tw_at 75 (by decide +kernel) rfl, tw_at 670 (by decide +kernel) rfl, by decide +kernel⟩
theorem kV_X0_86 : sg_LV RX0 86 RX3 yX3_putAbout mX3_putAbout 3 := ⟨tw_at 679 (by decide +kernel) rfl, tw_at 291 (by decide +kernel) rfl, tw_at 292 (by decide +kernel) rfl, tw_at 73 (by decide +kernel) rfl, tw_at 293 (by decide +kernel) rfl, by decide +kernel⟩
theorem kV_X2_28 : sg_LV RX2 28 RX2 yX2_goesOn mX2_goesOn 1 := ⟨tw_at 575 (by decide +kernel) rfl, tw_at 577 (by decide +kernel) rfl, tw_at 5 (by decide +kernel) rfl, tw_at 76 (by decide +kernel) rfl, tw_at 578 (by decide +kernel) rfl, by decide +kernel⟩
theorem kV_X2_32 : sg_LV RX2 32 RX2 yX2_tokenEnd mX2_tokenEnd 1 := ⟨tw_at 585 (by decide +kernel) rfl, tw_at 587 (by decide +kernel) rfl, tw_at 6 (by decide +kernel) rfl, tw_at 76 (by decide +kernel) rfl, tw_at 588 (by decide +kernel) rfl, by decide +kernel⟩
theorem kV_X2_36 : sg_LV RX2 36 RX2 yX2_keepToken mX2_keepToken 3 := ⟨tw_at 589 (by decide +kernel) rfl, tw_at 591 (by decide +kernel) rfl, tw_at 7 (by decide +kernel) rfl, tw_at 76 (by decide +kernel) rfl, tw_at 592 (by decide +kernel) rfl, by decide +kernel⟩
theorem kV_X2_46 : sg_LV RX2 46 RX2 yX2_wordNumber mX2_wordNumber 2 := ⟨tw_at 593 (by decide +kernel) rfl, tw_at 595 (by decide +kernel) rfl, tw_at 8 (by decide +kernel) rfl, tw_at 76 (by decide +kernel) rfl, tw_at 596 (by decide +kernel) rfl, by decide +kernel⟩
theorem kV_X2_50 : sg_LV RX2 50 RX2 yX2_worth mX2_worth 2 := ⟨tw_at 650 (by decide +kernel) rfl, tw_at 652 (by decide +kernel) rfl, tw_at 10 (by decide +kernel) rfl, tw_at 76 (by decide +kernel) rfl, tw_at 653 (by decide +kernel) rfl, by decide +kernel⟩
theorem kV_X2_60 : sg_LV RX2 60 RJ0 yJ0_length_8abf5 mJ0_length_8abf5 0 := ⟨tw_at 598 (by decide +kernel) rfl, tw_at 599 (by decide +kernel) rfl, tw_at 600 (by decide +kernel) rfl, tw_at 82 (by decide +kernel) rfl, tw_at 601 (by decide +kernel) rfl, by decide +kernel⟩
theorem kV_X2_66 : sg_LV RX2 66 RJ0 yJ0_charAt_5068e mJ0_charAt_5068e 1 := ⟨tw_at 608 (by decide +kernel) rfl, tw_at 609 (by decide +kernel) rfl, tw_at 610 (by decide +kernel) rfl, tw_at 82 (by decide +kernel) rfl, tw_at 611 (by decide +kernel) rfl, by decide +kernel⟩
theorem kV_X2_70 : sg_LV RX2 70 RX2 yX2_isAlike mX2_isAlike 3 := ⟨tw_at 646 (by decide +kernel) rfl, tw_at 648 (by decide +kernel) rfl, tw_at 9 (by decide +kernel) rfl, tw_at 76 (by decide +kernel) rfl, tw_at 649 (by decide +kernel) rfl, by decide +kernel⟩
theorem kV_X3_70 : sg_LV RX3 70 RX3 yX3_begin mX3_begin 2 := ⟨tw_at 294 (by decide +kernel) rfl, tw_at 295 (by decide +kernel) rfl, tw_at 296 (by decide +kernel) rfl, tw_at 73 (by decide +kernel) rfl, tw_at 297 (by decide +kernel) rfl, by decide +kernel⟩
theorem kV_X3_74 : sg_LV RX3 74 RX3 yX3_hasHeard mX3_hasHeard 2 := ⟨tw_at 306 (by decide +kernel) rfl, tw_at 307 (by decide +kernel) rfl, tw_at 308 (by decide +kernel) rfl, tw_at 73 (by decide +kernel) rfl, tw_at 309 (by decide +kernel) rfl, by decide +kernel⟩
theorem kV_X3_78 : sg_LV RX3 78 RX3 yX3_wouldTell mX3_wouldTell 3 := ⟨tw_at 357 (by decide +kernel) rfl, tw_at 358 (by decide +kernel) rfl, tw_at 359 (by decide +kernel) rfl, tw_at 73 (by decide +kernel) rfl, tw_at 360 (by decide +kernel) rfl, by decide +kernel⟩
theorem kV_X3_82 : sg_LV RX3 82 RX3 yX3_wouldBelieve mX3_wouldBelieve 3 := ⟨tw_at 361 (by decide +kernel) rfl, tw_at 362 (by decide +kernel) rfl, tw_at 363 (by decide +kernel) rfl, tw_at 73 (by decide +kernel) rfl, tw_at 364 (by decide +kernel) rfl, by decide +kernel⟩
theorem kV_X3_85 : sg_LV RX3 85 RX3 yX3_whomNames mX3_whomNames 2 := ⟨tw_at 365 (by decide +kernel) rfl, tw_at 366 (by decide +kernel) rfl, tw_at 367 (by decide +kernel) rfl, tw_at 73 (by decide +kernel) rfl, tw_at 368 (by decide +kernel) rfl, by decide +kernel⟩
theorem kV_X3_89 : sg_LV RX3 89 RX3 yX3_isPerson mX3_isPerson 1 := ⟨tw_at 347 (by decide +kernel) rfl, tw_at 287 (by decide +kernel) rfl, tw_at 288 (by decide +kernel) rfl, tw_at 73 (by decide +kernel) rfl, tw_at 289 (by decide +kernel) rfl, by decide +kernel⟩
theorem kV_X3_93 : sg_LV RX3 93 RX3 yX3_source mX3_source 2 := ⟨tw_at 348 (by decide +kernel) rfl, tw_at 336 (by decide +kernel) rfl, tw_at 337 (by decide +kernel) rfl, tw_at 73 (by decide +kernel) rfl, tw_at 338 (by decide +kernel) rfl, by decide +kernel⟩
theorem kV_X3_96 : sg_LV RX3 96 RX3 yX3_passDay mX3_passDay 0 := ⟨tw_at 378 (by decide +kernel) rfl, tw_at 379 (by decide +kernel) rfl, tw_at 380 (by decide +kernel) rfl, tw_at 73 (by decide +kernel) rfl, tw_at 381 (by decide +kernel) rfl, by decide +kernel⟩
theorem kV_X3_99 : sg_LV RX3 99 RX3 yX3_passOn mX3_passOn 2 := ⟨tw_at 382 (by decide +kernel) rfl, tw_at 354 (by decide +kernel) rfl, tw_at 355 (by decide +kernel) rfl, tw_at 73 (by decide +kernel) rfl, tw_at 356 (by decide +kernel) rfl, by decide +kernel⟩
theorem kV_X3_102 : sg_LV RX3 102 RX3 yX3_holdTrial mX3_holdTrial 1 := ⟨tw_at 383 (by decide +kernel) rfl, tw_at 384 (by decide +kernel) rfl, tw_at 385 (by decide +kernel) rfl, tw_at 73 (by decide +kernel) rfl, tw_at 386 (by decide +kernel) rfl, by decide +kernel⟩
theorem kV_X3_112 : sg_LV RX3 112 RX3 yX3_isSaying mX3_isSaying 1 := ⟨tw_at 387 (by decide +kernel) rfl, tw_at 323 (by decide +kernel) rfl, tw_at 324 (by decide +kernel) rfl, tw_at 73 (by decide +kernel) rfl, tw_at 325 (by decide +kernel) rfl, by decide +kernel⟩
theorem kV_X3_115 : sg_LV RX3 115 RX3 yX3_lastHearer mX3_lastHearer 1 := ⟨tw_at 388 (by decide +kernel) rfl, tw_at 389 (by decide +kernel) rfl, tw_at 390 (by decide +kernel) rfl, tw_at 73 (by decide +kernel) rfl, tw_at 391 (by decide +kernel) rfl, by decide +kernel⟩
theorem kV_X3_119 : sg_LV RX3 119 RX3 yX3_trace mX3_trace 2 := ⟨tw_at 392 (by decide +kernel) rfl, tw_at 344 (by decide +kernel) rfl, tw_at 345 (by decide +kernel) rfl, tw_at 73 (by decide +kernel) rfl, tw_at 346 (by decide +kernel) rfl, by decide +kernel⟩
theorem kV_X3_122 : sg_LV RX3 122 RX3 yX3_mrNobody mX3_mrNobody 0 := ⟨tw_at 393 (by decide +kernel) rfl, tw_at 394 (by decide +kernel) rfl, tw_at 395 (by decide +kernel) rfl, tw_at 73 (by decide +kernel) rfl, tw_at 396 (by decide +kernel) rfl, by decide +kernel⟩
theorem kV_X3_126 : sg_LV RX3 126 RX3 yX3_payment mX3_payment 2 := ⟨tw_at 400 (by decide +kernel) rfl, tw_at 401 (by decide +kernel) rfl, tw_at 402 (by decide +kernel) rfl, tw_at 73 (by decide +kernel) rfl, tw_at 403 (by decide +kernel) rfl, by decide +kernel⟩
theorem kV_X3_134 : sg_LV RX3 134 RX3 yX3_everybody mX3_everybody 0 := ⟨tw_at 423 (by decide +kernel) rfl, tw_at 424 (by decide +kernel) rfl, tw_at 425 (by decide +kernel) rfl, tw_at 73 (by decide +kernel) rfl, tw_at 426 (by decide +kernel) rfl, by decide +kernel⟩
theorem kV_X3_137 : sg_LV RX3 137 RX3 yX3_heardBy mX3_heardBy 1 := ⟨tw_at 439 (by decide +kernel) rfl, tw_at 303 (by decide +kernel) rfl, tw_at 304 (by decide +kernel) rfl, tw_at 73 (by decide +kernel) rfl, tw_at 305 (by decide +kernel) rfl, by decide +kernel⟩
theorem kV_L_13 : sg_LV RL 13 RX4 yX4_list mX4_list 3 := ⟨tw_at 258 (by decide +kernel) rfl, tw_at 259 (by decide +kernel) rfl, tw_at 260 (by decide +kernel) rfl, tw_at 72 (by decide +kernel) rfl, tw_at 261 (by decide +kernel) rfl, by decide +kernel⟩
theorem kV_L_17 : sg_LV RL 17 RX5 yX5_list mX5_list 3 := ⟨tw_at 843 (by decide +kernel) rfl, tw_at 844 (by decide +kernel) rfl, tw_at 845 (by decide +kernel) rfl, tw_at 78 (by decide +kernel) rfl, tw_at 846 (by decide +kernel) rfl, by decide +kernel⟩
theorem kV_L_18 : sg_LV RL 18 RX4 yX4_listed mX4_listed 1 := ⟨tw_at 270 (by decide +kernel) rfl, tw_at 271 (by decide +kernel) rfl, tw_at 272 (by decide +kernel) rfl, tw_at 72 (by decide +kernel) rfl, tw_at 273 (by decide +kernel) rfl, by decide +kernel⟩
theorem kV_L_22 : sg_LV RL 22 RX5 yX5_listed mX5_listed 1 := ⟨tw_at 865 (by decide +kernel) rfl, tw_at 866 (by decide +kernel) rfl, tw_at 867 (by decide +kernel) rfl, tw_at 78 (by decide +kernel) rfl, tw_at 868 (by decide +kernel) rfl, by decide +kernel⟩
theorem kV_L_23 : sg_LV RL 23 RX4 yX4_person mX4_person 2 := ⟨tw_at 274 (by decide +kernel) rfl, tw_at 275 (by decide +kernel) rfl, tw_at 276 (by decide +kernel) rfl, tw_at 72 (by decide +kernel) rfl, tw_at 277 (by decide +kernel) rfl, by decide +kernel⟩
theorem kV_L_27 : sg_LV RL 27 RX5 yX5_person mX5_person 2 := ⟨tw_at 869 (by decide +kernel) rfl, tw_at 870 (by decide +kernel) rfl, tw_at 871 (by decide +kernel) rfl, tw_at 78 (by decide +kernel) rfl, tw_at 872 (by decide +kernel) rfl, by decide +kernel⟩
theorem kV_L_28 : sg_LV RL 28 RX4 yX4_saying mX4_saying 3 := ⟨tw_at 282 (by decide +kernel) rfl, tw_at 283 (by decide +kernel) rfl, tw_at 284 (by decide +kernel) rfl, tw_at 72 (by decide +kernel) rfl, tw_at 285 (by decide +kernel) rfl, by decide +kernel⟩
theorem kV_L_31 : sg_LV RL 31 RX5 yX5_saying mX5_saying 3 := ⟨tw_at 887 (by decide +kernel) rfl, tw_at 888 (by decide +kernel) rfl, tw_at 889 (by decide +kernel) rfl, tw_at 78 (by decide +kernel) rfl, tw_at 890 (by decide +kernel) rfl, by decide +kernel⟩
theorem kV_L_32 : sg_LV RL 32 RX4 yX4_of mX4_of 2 := ⟨tw_at 298 (by decide +kernel) rfl, tw_at 299 (by decide +kernel) rfl, tw_at 300 (by decide +kernel) rfl, tw_at 72 (by decide +kernel) rfl, tw_at 301 (by decide +kernel) rfl, by decide +kernel⟩
theorem kV_L_35 : sg_LV RL 35 RX5 yX5_of mX5_of 2 := ⟨tw_at 906 (by decide +kernel) rfl, tw_at 907 (by decide +kernel) rfl, tw_at 908 (by decide +kernel) rfl, tw_at 78 (by decide +kernel) rfl, tw_at 909 (by decide +kernel) rfl, by decide +kernel⟩
theorem kV_L_36 : sg_LV RL 36 RX4 yX4_change mX4_change 3 := ⟨tw_at 310 (by decide +kernel) rfl, tw_at 311 (by decide +kernel) rfl, tw_at 312 (by decide +kernel) rfl, tw_at 72 (by decide +kernel) rfl, tw_at 313 (by decide +kernel) rfl, by decide +kernel⟩
theorem kV_L_39 : sg_LV RL 39 RX5 yX5_change mX5_change 3 := ⟨tw_at 930 (by decide +kernel) rfl, tw_at 931 (by decide +kernel) rfl, tw_at 932 (by decide +kernel) rfl, tw_at 78 (by decide +kernel) rfl, tw_at 933 (by decide +kernel) rfl, by decide +kernel⟩
theorem kV_L_40 : sg_LV RL 40 RX4 yX4_ofSaying mX4_ofSaying 2 := ⟨tw_at 318 (by decide +kernel) rfl, tw_at 319 (by decide +kernel) rfl, tw_at 320 (by decide +kernel) rfl, tw_at 72 (by decide +kernel) rfl, tw_at 321 (by decide +kernel) rfl, by decide +kernel⟩
theorem kV_L_43 : sg_LV RL 43 RX5 yX5_ofSaying mX5_ofSaying 2 := ⟨tw_at 937 (by decide +kernel) rfl, tw_at 938 (by decide +kernel) rfl, tw_at 939 (by decide +kernel) rfl, tw_at 78 (by decide +kernel) rfl, tw_at 940 (by decide +kernel) rfl, by decide +kernel⟩
theorem kV_L_44 : sg_LV RL 44 RX4 yX4_alter mX4_alter 3 := ⟨tw_at 326 (by decide +kernel) rfl, tw_at 327 (by decide +kernel) rfl, tw_at 328 (by decide +kernel) rfl, tw_at 72 (by decide +kernel) rfl, tw_at 329 (by decide +kernel) rfl, by decide +kernel⟩
theorem kV_L_47 : sg_LV RL 47 RX5 yX5_alter mX5_alter 3 := ⟨tw_at 945 (by decide +kernel) rfl, tw_at 946 (by decide +kernel) rfl, tw_at 947 (by decide +kernel) rfl, tw_at 78 (by decide +kernel) rfl, tw_at 948 (by decide +kernel) rfl, by decide +kernel⟩
theorem kV_L_48 : sg_LV RL 48 RX4 yX4_from mX4_from 2 := ⟨tw_at 330 (by decide +kernel) rfl, tw_at 331 (by decide +kernel) rfl, tw_at 332 (by decide +kernel) rfl, tw_at 72 (by decide +kernel) rfl, tw_at 333 (by decide +kernel) rfl, by decide +kernel⟩
theorem kV_L_51 : sg_LV RL 51 RX5 yX5_from mX5_from 2 := ⟨tw_at 949 (by decide +kernel) rfl, tw_at 950 (by decide +kernel) rfl, tw_at 951 (by decide +kernel) rfl, tw_at 78 (by decide +kernel) rfl, tw_at 952 (by decide +kernel) rfl, by decide +kernel⟩
theorem kV_L_52 : sg_LV RL 52 RX4 yX4_traced mX4_traced 2 := ⟨tw_at 339 (by decide +kernel) rfl, tw_at 340 (by decide +kernel) rfl, tw_at 341 (by decide +kernel) rfl, tw_at 72 (by decide +kernel) rfl, tw_at 342 (by decide +kernel) rfl, by decide +kernel⟩
theorem kV_L_55 : sg_LV RL 55 RX5 yX5_traced mX5_traced 2 := ⟨tw_at 954 (by decide +kernel) rfl, tw_at 955 (by decide +kernel) rfl, tw_at 956 (by decide +kernel) rfl, tw_at 78 (by decide +kernel) rfl, tw_at 957 (by decide +kernel) rfl, by decide +kernel⟩
theorem kV_L_56 : sg_LV RL 56 RX4 yX4_talk mX4_talk 2 := ⟨tw_at 349 (by decide +kernel) rfl, tw_at 350 (by decide +kernel) rfl, tw_at 351 (by decide +kernel) rfl, tw_at 72 (by decide +kernel) rfl, tw_at 352 (by decide +kernel) rfl, by decide +kernel⟩
theorem kV_L_59 : sg_LV RL 59 RX5 yX5_talk mX5_talk 2 := ⟨tw_at 962 (by decide +kernel) rfl, tw_at 963 (by decide +kernel) rfl, tw_at 964 (by decide +kernel) rfl, tw_at 78 (by decide +kernel) rfl, tw_at 965 (by decide +kernel) rfl, by decide +kernel⟩
theorem kV_L_60 : sg_LV RL 60 RX4 yX4_go mX4_go 1 := ⟨tw_at 369 (by decide +kernel) rfl, tw_at 370 (by decide +kernel) rfl, tw_at 371 (by decide +kernel) rfl, tw_at 72 (by decide +kernel) rfl, tw_at 372 (by decide +kernel) rfl, by decide +kernel⟩
theorem kV_L_63 : sg_LV RL 63 RX5 yX5_go mX5_go 1 := ⟨tw_at 987 (by decide +kernel) rfl, tw_at 988 (by decide +kernel) rfl, tw_at 989 (by decide +kernel) rfl, tw_at 78 (by decide +kernel) rfl, tw_at 990 (by decide +kernel) rfl, by decide +kernel⟩
theorem kV_L_64 : sg_LV RL 64 RX4 yX4_now mX4_now 1 := ⟨tw_at 405 (by decide +kernel) rfl, tw_at 406 (by decide +kernel) rfl, tw_at 407 (by decide +kernel) rfl, tw_at 72 (by decide +kernel) rfl, tw_at 408 (by decide +kernel) rfl, by decide +kernel⟩
theorem kV_L_67 : sg_LV RL 67 RX5 yX5_now mX5_now 1 := ⟨tw_at 1024 (by decide +kernel) rfl, tw_at 1025 (by decide +kernel) rfl, tw_at 1026 (by decide +kernel) rfl, tw_at 78 (by decide +kernel) rfl, tw_at 1027 (by decide +kernel) rfl, by decide +kernel⟩
theorem kV_L_68 : sg_LV RL 68 RX4 yX4_ahead mX4_ahead 3 := ⟨tw_at 444 (by decide +kernel) rfl, tw_at 445 (by decide +kernel) rfl, tw_at 446 (by decide +kernel) rfl, tw_at 72 (by decide +kernel) rfl, tw_at 447 (by decide +kernel) rfl, by decide +kernel⟩
theorem kV_L_71 : sg_LV RL 71 RX5 yX5_ahead mX5_ahead 3 := ⟨tw_at 1059 (by decide +kernel) rfl, tw_at 1060 (by decide +kernel) rfl, tw_at 1061 (by decide +kernel) rfl, tw_at 78 (by decide +kernel) rfl, tw_at 1062 (by decide +kernel) rfl, by decide +kernel⟩
theorem kV_L_72 : sg_LV RL 72 RX4 yX4_spread mX4_spread 2 := ⟨tw_at 455 (by decide +kernel) rfl, tw_at 456 (by decide +kernel) rfl, tw_at 457 (by decide +kernel) rfl, tw_at 72 (by decide +kernel) rfl, tw_at 458 (by decide +kernel) rfl, by decide +kernel⟩
theorem kV_L_75 : sg_LV RL 75 RX5 yX5_spread mX5_spread 2 := ⟨tw_at 1070 (by decide +kernel) rfl, tw_at 1071 (by decide +kernel) rfl, tw_at 1072 (by decide +kernel) rfl, tw_at 78 (by decide +kernel) rfl, tw_at 1073 (by decide +kernel) rfl, by decide +kernel⟩
theorem kV_L_76 : sg_LV RL 76 RX4 yX4_when mX4_when 2 := ⟨tw_at 459 (by decide +kernel) rfl, tw_at 460 (by decide +kernel) rfl, tw_at 461 (by decide +kernel) rfl, tw_at 72 (by decide +kernel) rfl, tw_at 462 (by decide +kernel) rfl, by decide +kernel⟩
theorem kV_L_79 : sg_LV RL 79 RX5 yX5_when mX5_when 2 := ⟨tw_at 1078 (by decide +kernel) rfl, tw_at 1079 (by decide +kernel) rfl, tw_at 1080 (by decide +kernel) rfl, tw_at 78 (by decide +kernel) rfl, tw_at 1081 (by decide +kernel) rfl, by decide +kernel⟩
theorem kV_L_80 : sg_LV RL 80 RX4 yX4_blamed mX4_blamed 2 := ⟨tw_at 464 (by decide +kernel) rfl, tw_at 465 (by decide +kernel) rfl, tw_at 466 (by decide +kernel) rfl, tw_at 72 (by decide +kernel) rfl, tw_at 467 (by decide +kernel) rfl, by decide +kernel⟩
theorem kV_L_83 : sg_LV RL 83 RX5 yX5_blamed mX5_blamed 2 := ⟨tw_at 1086 (by decide +kernel) rfl, tw_at 1087 (by decide +kernel) rfl, tw_at 1088 (by decide +kernel) rfl, tw_at 78 (by decide +kernel) rfl, tw_at 1089 (by decide +kernel) rfl, by decide +kernel⟩
theorem kV_L_84 : sg_LV RL 84 RX4 yX4_fund mX4_fund 1 := ⟨tw_at 468 (by decide +kernel) rfl, tw_at 469 (by decide +kernel) rfl, tw_at 470 (by decide +kernel) rfl, tw_at 72 (by decide +kernel) rfl, tw_at 471 (by decide +kernel) rfl, by decide +kernel⟩
theorem kV_L_87 : sg_LV RL 87 RX5 yX5_fund mX5_fund 1 := ⟨tw_at 1094 (by decide +kernel) rfl, tw_at 1095 (by decide +kernel) rfl, tw_at 1096 (by decide +kernel) rfl, tw_at 78 (by decide +kernel) rfl, tw_at 1097 (by decide +kernel) rfl, by decide +kernel⟩
theorem kV_L_88 : sg_LV RL 88 RX4 yX4_beginner mX4_beginner 2 := ⟨tw_at 472 (by decide +kernel) rfl, tw_at 473 (by decide +kernel) rfl, tw_at 474 (by decide +kernel) rfl, tw_at 72 (by decide +kernel) rfl, tw_at 475 (by decide +kernel) rfl, by decide +kernel⟩
theorem kV_L_91 : sg_LV RL 91 RX5 yX5_beginner mX5_beginner 2 := ⟨tw_at 1098 (by decide +kernel) rfl, tw_at 1099 (by decide +kernel) rfl, tw_at 1100 (by decide +kernel) rfl, tw_at 78 (by decide +kernel) rfl, tw_at 1101 (by decide +kernel) rfl, by decide +kernel⟩
theorem kV_L_92 : sg_LV RL 92 RX4 yX4_kindFor mX4_kindFor 2 := ⟨tw_at 478 (by decide +kernel) rfl, tw_at 479 (by decide +kernel) rfl, tw_at 480 (by decide +kernel) rfl, tw_at 72 (by decide +kernel) rfl, tw_at 481 (by decide +kernel) rfl, by decide +kernel⟩
theorem kV_L_95 : sg_LV RL 95 RX5 yX5_kindFor mX5_kindFor 2 := ⟨tw_at 1109 (by decide +kernel) rfl, tw_at 1110 (by decide +kernel) rfl, tw_at 1111 (by decide +kernel) rfl, tw_at 78 (by decide +kernel) rfl, tw_at 1112 (by decide +kernel) rfl, by decide +kernel⟩
theorem kV_L_96 : sg_LV RL 96 RX4 yX4_trustFor mX4_trustFor 3 := ⟨tw_at 482 (by decide +kernel) rfl, tw_at 483 (by decide +kernel) rfl, tw_at 484 (by decide +kernel) rfl, tw_at 72 (by decide +kernel) rfl, tw_at 485 (by decide +kernel) rfl, by decide +kernel⟩
theorem kV_L_99 : sg_LV RL 99 RX5 yX5_trustFor mX5_trustFor 3 := ⟨tw_at 1113 (by decide +kernel) rfl, tw_at 1114 (by decide +kernel) rfl, tw_at 1115 (by decide +kernel) rfl, tw_at 78 (by decide +kernel) rfl, tw_at 1116 (by decide +kernel) rfl, by decide +kernel⟩
theorem kV_L_100 : sg_LV RL 100 RX4 yX4_weightFor mX4_weightFor 2 := ⟨tw_at 486 (by decide +kernel) rfl, tw_at 487 (by decide +kernel) rfl, tw_at 488 (by decide +kernel) rfl, tw_at 72 (by decide +kernel) rfl, tw_at 489 (by decide +kernel) rfl, by decide +kernel⟩
theorem kV_L_103 : sg_LV RL 103 RX5 yX5_weightFor mX5_weightFor 2 := ⟨tw_at 1117 (by decide +kernel) rfl, tw_at 1118 (by decide +kernel) rfl, tw_at 1119 (by decide +kernel) rfl, tw_at 78 (by decide +kernel) rfl, tw_at 1120 (by decide +kernel) rfl, by decide +kernel⟩
theorem kV_L_104 : sg_LV RL 104 RX4 yX4_hush mX4_hush 3 := ⟨tw_at 491 (by decide +kernel) rfl, tw_at 492 (by decide +kernel) rfl, tw_at 493 (by decide +kernel) rfl, tw_at 72 (by decide +kernel) rfl, tw_at 494 (by decide +kernel) rfl, by decide +kernel⟩
theorem kV_L_107 : sg_LV RL 107 RX5 yX5_hush mX5_hush 3 := ⟨tw_at 1121 (by decide +kernel) rfl, tw_at 1122 (by decide +kernel) rfl, tw_at 1123 (by decide +kernel) rfl, tw_at 78 (by decide +kernel) rfl, tw_at 1124 (by decide +kernel) rfl, by decide +kernel⟩
theorem kV_L_108 : sg_LV RL 108 RX4 yX4_fits mX4_fits 2 := ⟨tw_at 503 (by decide +kernel) rfl, tw_at 504 (by decide +kernel) rfl, tw_at 505 (by decide +kernel) rfl, tw_at 72 (by decide +kernel) rfl, tw_at 506 (by decide +kernel) rfl, by decide +kernel⟩
theorem kV_L_111 : sg_LV RL 111 RX5 yX5_fits mX5_fits 2 := ⟨tw_at 1129 (by decide +kernel) rfl, tw_at 1130 (by decide +kernel) rfl, tw_at 1131 (by decide +kernel) rfl, tw_at 78 (by decide +kernel) rfl, tw_at 1132 (by decide +kernel) rfl, by decide +kernel⟩
theorem kV_L_112 : sg_LV RL 112 RX4 yX4_kinds mX4_kinds 2 := ⟨tw_at 519 (by decide +kernel) rfl, tw_at 520 (by decide +kernel) rfl, tw_at 521 (by decide +kernel) rfl, tw_at 72 (by decide +kernel) rfl, tw_at 522 (by decide +kernel) rfl, by decide +kernel⟩
theorem kV_L_115 : sg_LV RL 115 RX5 yX5_kinds mX5_kinds 2 := ⟨tw_at 1145 (by decide +kernel) rfl, tw_at 1146 (by decide +kernel) rfl, tw_at 1147 (by decide +kernel) rfl, tw_at 78 (by decide +kernel) rfl, tw_at 1148 (by decide +kernel) rfl, by decide +kernel⟩
theorem kV_L_116 : sg_LV RL 116 RX4 yX4_evening mX4_evening 1 := ⟨tw_at 527 (by decide +kernel) rfl, tw_at 528 (by decide +kernel) rfl, tw_at 529 (by decide +kernel) rfl, tw_at 72 (by decide +kernel) rfl, tw_at 530 (by decide +kernel) rfl, by decide +kernel⟩
theorem kV_L_119 : sg_LV RL 119 RX5 yX5_evening mX5_evening 1 := ⟨tw_at 1149 (by decide +kernel) rfl, tw_at 1150 (by decide +kernel) rfl, tw_at 1151 (by decide +kernel) rfl, tw_at 78 (by decide +kernel) rfl, tw_at 1152 (by decide +kernel) rfl, by decide +kernel⟩
theorem kV_L_120 : sg_LV RL 120 RX4 yX4_odds mX4_odds 4 := ⟨tw_at 536 (by decide +kernel) rfl, tw_at 537 (by decide +kernel) rfl, tw_at 538 (by decide +kernel) rfl, tw_at 72 (by decide +kernel) rfl, tw_at 539 (by decide +kernel) rfl, by decide +kernel⟩
theorem kV_L_124 : sg_LV RL 124 RX5 yX5_odds mX5_odds 4 := ⟨tw_at 1158 (by decide +kernel) rfl, tw_at 1159 (by decide +kernel) rfl, tw_at 1160 (by decide +kernel) rfl, tw_at 78 (by decide +kernel) rfl, tw_at 1161 (by decide +kernel) rfl, by decide +kernel⟩
theorem kV_L_125 : sg_LV RL 125 RX4 yX4_seed mX4_seed 1 := ⟨tw_at 547 (by decide +kernel) rfl, tw_at 548 (by decide +kernel) rfl, tw_at 549 (by decide +kernel) rfl, tw_at 72 (by decide +kernel) rfl, tw_at 550 (by decide +kernel) rfl, by decide +kernel⟩
theorem kV_L_128 : sg_LV RL 128 RX5 yX5_seed mX5_seed 1 := ⟨tw_at 1162 (by decide +kernel) rfl, tw_at 1163 (by decide +kernel) rfl, tw_at 1164 (by decide +kernel) rfl, tw_at 78 (by decide +kernel) rfl, tw_at 1165 (by decide +kernel) rfl, by decide +kernel⟩
theorem kV_L_129 : sg_LV RL 129 RX4 yX4_feed mX4_feed 2 := ⟨tw_at 551 (by decide +kernel) rfl, tw_at 552 (by decide +kernel) rfl, tw_at 553 (by decide +kernel) rfl, tw_at 72 (by decide +kernel) rfl, tw_at 554 (by decide +kernel) rfl, by decide +kernel⟩
theorem kV_L_132 : sg_LV RL 132 RX5 yX5_feed mX5_feed 2 := ⟨tw_at 1166 (by decide +kernel) rfl, tw_at 1167 (by decide +kernel) rfl, tw_at 1168 (by decide +kernel) rfl, tw_at 78 (by decide +kernel) rfl, tw_at 1169 (by decide +kernel) rfl, by decide +kernel⟩
theorem kV_L_133 : sg_LV RL 133 RX4 yX4_wipe mX4_wipe 0 := ⟨tw_at 559 (by decide +kernel) rfl, tw_at 560 (by decide +kernel) rfl, tw_at 561 (by decide +kernel) rfl, tw_at 72 (by decide +kernel) rfl, tw_at 562 (by decide +kernel) rfl, by decide +kernel⟩
theorem kV_L_137 : sg_LV RL 137 RX5 yX5_wipe mX5_wipe 0 := ⟨tw_at 1170 (by decide +kernel) rfl, tw_at 1171 (by decide +kernel) rfl, tw_at 1172 (by decide +kernel) rfl, tw_at 78 (by decide +kernel) rfl, tw_at 1173 (by decide +kernel) rfl, by decide +kernel⟩
theorem kV_L_138 : sg_LV RL 138 RX4 yX4_text mX4_text 0 := ⟨tw_at 563 (by decide +kernel) rfl, tw_at 564 (by decide +kernel) rfl, tw_at 565 (by decide +kernel) rfl, tw_at 72 (by decide +kernel) rfl, tw_at 566 (by decide +kernel) rfl, by decide +kernel⟩
theorem kV_L_141 : sg_LV RL 141 RX5 yX5_text mX5_text 0 := ⟨tw_at 1174 (by decide +kernel) rfl, tw_at 1175 (by decide +kernel) rfl, tw_at 1176 (by decide +kernel) rfl, tw_at 78 (by decide +kernel) rfl, tw_at 1177 (by decide +kernel) rfl, by decide +kernel⟩
theorem kV_L_142 : sg_LV RL 142 RX4 yX4_hold mX4_hold 2 := ⟨tw_at 691 (by decide +kernel) rfl, tw_at 692 (by decide +kernel) rfl, tw_at 693 (by decide +kernel) rfl, tw_at 72 (by decide +kernel) rfl, tw_at 694 (by decide +kernel) rfl, by decide +kernel⟩
theorem kV_L_145 : sg_LV RL 145 RX5 yX5_hold mX5_hold 2 := ⟨tw_at 1228 (by decide +kernel) rfl, tw_at 1229 (by decide +kernel) rfl, tw_at 1230 (by decide +kernel) rfl, tw_at 78 (by decide +kernel) rfl, tw_at 1231 (by decide +kernel) rfl, by decide +kernel⟩
theorem kV_L_146 : sg_LV RL 146 RX4 yX4_as mX4_as 2 := ⟨tw_at 695 (by decide +kernel) rfl, tw_at 696 (by decide +kernel) rfl, tw_at 697 (by decide +kernel) rfl, tw_at 72 (by decide +kernel) rfl, tw_at 698 (by decide +kernel) rfl, by decide +kernel⟩
theorem kV_L_149 : sg_LV RL 149 RX5 yX5_as mX5_as 2 := ⟨tw_at 1235 (by decide +kernel) rfl, tw_at 1236 (by decide +kernel) rfl, tw_at 1237 (by decide +kernel) rfl, tw_at 78 (by decide +kernel) rfl, tw_at 1238 (by decide +kernel) rfl, by decide +kernel⟩
theorem kV_L_150 : sg_LV RL 150 RX4 yX4_sheet mX4_sheet 3 := ⟨tw_at 705 (by decide +kernel) rfl, tw_at 706 (by decide +kernel) rfl, tw_at 707 (by decide +kernel) rfl, tw_at 72 (by decide +kernel) rfl, tw_at 708 (by decide +kernel) rfl, by decide +kernel⟩
theorem kV_L_153 : sg_LV RL 153 RX5 yX5_sheet mX5_sheet 3 := ⟨tw_at 1246 (by decide +kernel) rfl, tw_at 1247 (by decide +kernel) rfl, tw_at 1248 (by decide +kernel) rfl, tw_at 78 (by decide +kernel) rfl, tw_at 1249 (by decide +kernel) rfl, by decide +kernel⟩
theorem kV_L_154 : sg_LV RL 154 RX4 yX4_write mX4_write 3 := ⟨tw_at 714 (by decide +kernel) rfl, tw_at 715 (by decide +kernel) rfl, tw_at 716 (by decide +kernel) rfl, tw_at 72 (by decide +kernel) rfl, tw_at 717 (by decide +kernel) rfl, by decide +kernel⟩
theorem kV_L_157 : sg_LV RL 157 RX5 yX5_write mX5_write 3 := ⟨tw_at 1251 (by decide +kernel) rfl, tw_at 1252 (by decide +kernel) rfl, tw_at 1253 (by decide +kernel) rfl, tw_at 78 (by decide +kernel) rfl, tw_at 1254 (by decide +kernel) rfl, by decide +kernel⟩
theorem kV_L_158 : sg_LV RL 158 RX4 yX4_copy mX4_copy 5 := ⟨tw_at 722 (by decide +kernel) rfl, tw_at 723 (by decide +kernel) rfl, tw_at 724 (by decide +kernel) rfl, tw_at 72 (by decide +kernel) rfl, tw_at 725 (by decide +kernel) rfl, by decide +kernel⟩
theorem kV_L_162 : sg_LV RL 162 RX5 yX5_copy mX5_copy 5 := ⟨tw_at 1258 (by decide +kernel) rfl, tw_at 1259 (by decide +kernel) rfl, tw_at 1260 (by decide +kernel) rfl, tw_at 78 (by decide +kernel) rfl, tw_at 1261 (by decide +kernel) rfl, by decide +kernel⟩
theorem kV_L_163 : sg_LV RL 163 RX4 yX4_load mX4_load 1 := ⟨tw_at 731 (by decide +kernel) rfl, tw_at 732 (by decide +kernel) rfl, tw_at 733 (by decide +kernel) rfl, tw_at 72 (by decide +kernel) rfl, tw_at 734 (by decide +kernel) rfl, by decide +kernel⟩
theorem kV_L_166 : sg_LV RL 166 RX5 yX5_load mX5_load 1 := ⟨tw_at 1262 (by decide +kernel) rfl, tw_at 1263 (by decide +kernel) rfl, tw_at 1264 (by decide +kernel) rfl, tw_at 78 (by decide +kernel) rfl, tw_at 1265 (by decide +kernel) rfl, by decide +kernel⟩
theorem kV_L_167 : sg_LV RL 167 RX4 yX4_judge mX4_judge 1 := ⟨tw_at 736 (by decide +kernel) rfl, tw_at 737 (by decide +kernel) rfl, tw_at 738 (by decide +kernel) rfl, tw_at 72 (by decide +kernel) rfl, tw_at 739 (by decide +kernel) rfl, by decide +kernel⟩
theorem kV_L_170 : sg_LV RL 170 RX5 yX5_judge mX5_judge 1 := ⟨tw_at 1266 (by decide +kernel) rfl, tw_at 1267 (by decide +kernel) rfl, tw_at 1268 (by decide +kernel) rfl, tw_at 78 (by decide +kernel) rfl, tw_at 1269 (by decide +kernel) rfl, by decide +kernel⟩
theorem kV_L_171 : sg_LV RL 171 RX4 yX4_image mX4_image 0 := ⟨tw_at 740 (by decide +kernel) rfl, tw_at 741 (by decide +kernel) rfl, tw_at 742 (by decide +kernel) rfl, tw_at 72 (by decide +kernel) rfl, tw_at 743 (by decide +kernel) rfl, by decide +kernel⟩
theorem kV_L_174 : sg_LV RL 174 RX5 yX5_image mX5_image 0 := ⟨tw_at 1270 (by decide +kernel) rfl, tw_at 1271 (by decide +kernel) rfl, tw_at 1272 (by decide +kernel) rfl, tw_at 78 (by decide +kernel) rfl, tw_at 1273 (by decide +kernel) rfl, by decide +kernel⟩
theorem kV_L_175 : sg_LV RL 175 RX4 yX4_undo mX4_undo 0 := ⟨tw_at 744 (by decide +kernel) rfl, tw_at 745 (by decide +kernel) rfl, tw_at 746 (by decide +kernel) rfl, tw_at 72 (by decide +kernel) rfl, tw_at 747 (by decide +kernel) rfl, by decide +kernel⟩
theorem kV_L_178 : sg_LV RL 178 RX5 yX5_undo mX5_undo 0 := ⟨tw_at 1274 (by decide +kernel) rfl, tw_at 1275 (by decide +kernel) rfl, tw_at 1276 (by decide +kernel) rfl, tw_at 78 (by decide +kernel) rfl, tw_at 1277 (by decide +kernel) rfl, by decide +kernel⟩
theorem kV_L_179 : sg_LV RL 179 RX4 yX4_tear mX4_tear 0 := ⟨tw_at 748 (by decide +kernel) rfl, tw_at 749 (by decide +kernel) rfl, tw_at 750 (by decide +kernel) rfl, tw_at 72 (by decide +kernel) rfl, tw_at 751 (by decide +kernel) rfl, by decide +kernel⟩
theorem kV_L_182 : sg_LV RL 182 RX5 yX5_tear mX5_tear 0 := ⟨tw_at 1278 (by decide +kernel) rfl, tw_at 1279 (by decide +kernel) rfl, tw_at 1280 (by decide +kernel) rfl, tw_at 78 (by decide +kernel) rfl, tw_at 1281 (by decide +kernel) rfl, by decide +kernel⟩
theorem kV_L_183 : sg_LV RL 183 RX4 yX4_count mX4_count 1 := ⟨tw_at 752 (by decide +kernel) rfl, tw_at 753 (by decide +kernel) rfl, tw_at 754 (by decide +kernel) rfl, tw_at 72 (by decide +kernel) rfl, tw_at 755 (by decide +kernel) rfl, by decide +kernel⟩
theorem kV_L_186 : sg_LV RL 186 RX5 yX5_count mX5_count 1 := ⟨tw_at 1282 (by decide +kernel) rfl, tw_at 1283 (by decide +kernel) rfl, tw_at 1284 (by decide +kernel) rfl, tw_at 78 (by decide +kernel) rfl, tw_at 1285 (by decide +kernel) rfl, by decide +kernel⟩
theorem kV_L_187 : sg_LV RL 187 RX4 yX4_status mX4_status 1 := ⟨tw_at 760 (by decide +kernel) rfl, tw_at 761 (by decide +kernel) rfl, tw_at 762 (by decide +kernel) rfl, tw_at 72 (by decide +kernel) rfl, tw_at 763 (by decide +kernel) rfl, by decide +kernel⟩
theorem kV_L_190 : sg_LV RL 190 RX5 yX5_status mX5_status 1 := ⟨tw_at 1286 (by decide +kernel) rfl, tw_at 1287 (by decide +kernel) rfl, tw_at 1288 (by decide +kernel) rfl, tw_at 78 (by decide +kernel) rfl, tw_at 1289 (by decide +kernel) rfl, by decide +kernel⟩
theorem kV_X5_66 : sg_LV RX5 66 RX5 yX5_finding mX5_finding 1 := ⟨tw_at 861 (by decide +kernel) rfl, tw_at 863 (by decide +kernel) rfl, tw_at 20 (by decide +kernel) rfl, tw_at 78 (by decide +kernel) rfl, tw_at 864 (by decide +kernel) rfl, by decide +kernel⟩
theorem kV_X5_81 : sg_LV RX5 81 RX5 yX5_become mX5_become 2 := ⟨tw_at 856 (by decide +kernel) rfl, tw_at 858 (by decide +kernel) rfl, tw_at 19 (by decide +kernel) rfl, tw_at 78 (by decide +kernel) rfl, tw_at 859 (by decide +kernel) rfl, by decide +kernel⟩
theorem kV_X5_98 : sg_LV RX5 98 RX5 yX5_comes mX5_comes 2 := ⟨tw_at 880 (by decide +kernel) rfl, tw_at 882 (by decide +kernel) rfl, tw_at 21 (by decide +kernel) rfl, tw_at 78 (by decide +kernel) rfl, tw_at 883 (by decide +kernel) rfl, by decide +kernel⟩
theorem kV_X5_101 : sg_LV RX5 101 RX5 yX5_isBegun mX5_isBegun 2 := ⟨tw_at 902 (by decide +kernel) rfl, tw_at 904 (by decide +kernel) rfl, tw_at 24 (by decide +kernel) rfl, tw_at 78 (by decide +kernel) rfl, tw_at 905 (by decide +kernel) rfl, by decide +kernel⟩
theorem kV_X5_105 : sg_LV RX5 105 RX5 yX5_isPerson mX5_isPerson 1 := ⟨tw_at 891 (by decide +kernel) rfl, tw_at 893 (by decide +kernel) rfl, tw_at 22 (by decide +kernel) rfl, tw_at 78 (by decide +kernel) rfl, tw_at 894 (by decide +kernel) rfl, by decide +kernel⟩
theorem kV_X5_108 : sg_LV RX5 108 RX5 yX5_isSaid mX5_isSaid 3 := ⟨tw_at 895 (by decide +kernel) rfl, tw_at 897 (by decide +kernel) rfl, tw_at 23 (by decide +kernel) rfl, tw_at 78 (by decide +kernel) rfl, tw_at 898 (by decide +kernel) rfl, by decide +kernel⟩
theorem kV_X5_112 : sg_LV RX5 112 RX5 yX5_sayingIs mX5_sayingIs 2 := ⟨tw_at 922 (by decide +kernel) rfl, tw_at 924 (by decide +kernel) rfl, tw_at 28 (by decide +kernel) rfl, tw_at 78 (by decide +kernel) rfl, tw_at 925 (by decide +kernel) rfl, by decide +kernel⟩
theorem kV_X5_115 : sg_LV RX5 115 RX5 yX5_hasHeard mX5_hasHeard 2 := ⟨tw_at 918 (by decide +kernel) rfl, tw_at 920 (by decide +kernel) rfl, tw_at 27 (by decide +kernel) rfl, tw_at 78 (by decide +kernel) rfl, tw_at 921 (by decide +kernel) rfl, by decide +kernel⟩
theorem kV_X5_119 : sg_LV RX5 119 RX5 yX5_heardBy mX5_heardBy 1 := ⟨tw_at 914 (by decide +kernel) rfl, tw_at 916 (by decide +kernel) rfl, tw_at 26 (by decide +kernel) rfl, tw_at 78 (by decide +kernel) rfl, tw_at 917 (by decide +kernel) rfl, by decide +kernel⟩
theorem kV_X5_122 : sg_LV RX5 122 RX5 yX5_personIs mX5_personIs 2 := ⟨tw_at 926 (by decide +kernel) rfl, tw_at 928 (by decide +kernel) rfl, tw_at 29 (by decide +kernel) rfl, tw_at 78 (by decide +kernel) rfl, tw_at 929 (by decide +kernel) rfl, by decide +kernel⟩
theorem kV_X5_125 : sg_LV RX5 125 RX5 yX5_told mX5_told 2 := ⟨tw_at 910 (by decide +kernel) rfl, tw_at 912 (by decide +kernel) rfl, tw_at 25 (by decide +kernel) rfl, tw_at 78 (by decide +kernel) rfl, tw_at 913 (by decide +kernel) rfl, by decide +kernel⟩
theorem kV_X5_131 : sg_LV RX5 131 RX5 yX5_isSaying mX5_isSaying 1 := ⟨tw_at 941 (by decide +kernel) rfl, tw_at 943 (by decide +kernel) rfl, tw_at 30 (by decide +kernel) rfl, tw_at 78 (by decide +kernel) rfl, tw_at 944 (by decide +kernel) rfl, by decide +kernel⟩
theorem kV_X5_134 : sg_LV RX5 134 RX5 yX5_tracedFrom mX5_tracedFrom 2 := ⟨tw_at 958 (by decide +kernel) rfl, tw_at 960 (by decide +kernel) rfl, tw_at 31 (by decide +kernel) rfl, tw_at 78 (by decide +kernel) rfl, tw_at 961 (by decide +kernel) rfl, by decide +kernel⟩
theorem kV_X5_137 : sg_LV RX5 137 RX5 yX5_tells mX5_tells 3 := ⟨tw_at 974 (by decide +kernel) rfl, tw_at 976 (by decide +kernel) rfl, tw_at 34 (by decide +kernel) rfl, tw_at 78 (by decide +kernel) rfl, tw_at 977 (by decide +kernel) rfl, by decide +kernel⟩
theorem kV_X5_140 : sg_LV RX5 140 RX5 yX5_believes mX5_believes 2 := ⟨tw_at 978 (by decide +kernel) rfl, tw_at 980 (by decide +kernel) rfl, tw_at 35 (by decide +kernel) rfl, tw_at 78 (by decide +kernel) rfl, tw_at 981 (by decide +kernel) rfl, by decide +kernel⟩
theorem kV_X5_143 : sg_LV RX5 143 RX5 yX5_names mX5_names 2 := ⟨tw_at 982 (by decide +kernel) rfl, tw_at 984 (by decide +kernel) rfl, tw_at 36 (by decide +kernel) rfl, tw_at 78 (by decide +kernel) rfl, tw_at 985 (by decide +kernel) rfl, by decide +kernel⟩
theorem kV_X5_146 : sg_LV RX5 146 RX5 yX5_mayTalk mX5_mayTalk 2 := ⟨tw_at 966 (by decide +kernel) rfl, tw_at 968 (by decide +kernel) rfl, tw_at 32 (by decide +kernel) rfl, tw_at 78 (by decide +kernel) rfl, tw_at 969 (by decide +kernel) rfl, by decide +kernel⟩
theorem kV_X5_149 : sg_LV RX5 149 RX5 yX5_talks mX5_talks 2 := ⟨tw_at 970 (by decide +kernel) rfl, tw_at 972 (by decide +kernel) rfl, tw_at 33 (by decide +kernel) rfl, tw_at 78 (by decide +kernel) rfl, tw_at 973 (by decide +kernel) rfl, by decide +kernel⟩
theorem kV_X5_161 : sg_LV RX5 161 RX5 yX5_theNobody mX5_theNobody 0 := ⟨tw_at 1011 (by decide +kernel) rfl, tw_at 1013 (by decide +kernel) rfl, tw_at 41 (by decide +kernel) rfl, tw_at 78 (by decide +kernel) rfl, tw_at 1014 (by decide +kernel) rfl, by decide +kernel⟩
theorem kV_X5_165 : sg_LV RX5 165 RX5 yX5_more mX5_more 3 := ⟨tw_at 1015 (by decide +kernel) rfl, tw_at 1017 (by decide +kernel) rfl, tw_at 42 (by decide +kernel) rfl, tw_at 78 (by decide +kernel) rfl, tw_at 1018 (by decide +kernel) rfl, by decide +kernel⟩
theorem kV_X5_169 : sg_LV RX5 169 RX5 yX5_pays mX5_pays 2 := ⟨tw_at 1020 (by decide +kernel) rfl, tw_at 1022 (by decide +kernel) rfl, tw_at 43 (by decide +kernel) rfl, tw_at 78 (by decide +kernel) rfl, tw_at 1023 (by decide +kernel) rfl, by decide +kernel⟩
theorem kV_X5_173 : sg_LV RX5 173 RX5 yX5_placeNow mX5_placeNow 0 := ⟨tw_at 1000 (by decide +kernel) rfl, tw_at 1002 (by decide +kernel) rfl, tw_at 39 (by decide +kernel) rfl, tw_at 78 (by decide +kernel) rfl, tw_at 1003 (by decide +kernel) rfl, by decide +kernel⟩
theorem kV_X5_176 : sg_LV RX5 176 RX5 yX5_trial mX5_trial 1 := ⟨tw_at 1004 (by decide +kernel) rfl, tw_at 1006 (by decide +kernel) rfl, tw_at 40 (by decide +kernel) rfl, tw_at 78 (by decide +kernel) rfl, tw_at 1007 (by decide +kernel) rfl, by decide +kernel⟩
theorem kV_X5_180 : sg_LV RX5 180 RX5 yX5_day mX5_day 0 := ⟨tw_at 996 (by decide +kernel) rfl, tw_at 998 (by decide +kernel) rfl, tw_at 38 (by decide +kernel) rfl, tw_at 78 (by decide +kernel) rfl, tw_at 999 (by decide +kernel) rfl, by decide +kernel⟩
theorem kV_X5_183 : sg_LV RX5 183 RX5 yX5_daysGo mX5_daysGo 1 := ⟨tw_at 992 (by decide +kernel) rfl, tw_at 994 (by decide +kernel) rfl, tw_at 37 (by decide +kernel) rfl, tw_at 78 (by decide +kernel) rfl, tw_at 995 (by decide +kernel) rfl, by decide +kernel⟩
theorem kV_X5_189 : sg_LV RX5 189 RX5 yX5_allHeard mX5_allHeard 1 := ⟨tw_at 1039 (by decide +kernel) rfl, tw_at 1041 (by decide +kernel) rfl, tw_at 46 (by decide +kernel) rfl, tw_at 78 (by decide +kernel) rfl, tw_at 1042 (by decide +kernel) rfl, by decide +kernel⟩
theorem kV_X5_192 : sg_LV RX5 192 RX5 yX5_heardInAll mX5_heardInAll 0 := ⟨tw_at 1028 (by decide +kernel) rfl, tw_at 1030 (by decide +kernel) rfl, tw_at 44 (by decide +kernel) rfl, tw_at 78 (by decide +kernel) rfl, tw_at 1031 (by decide +kernel) rfl, by decide +kernel⟩
theorem kV_X5_195 : sg_LV RX5 195 RX5 yX5_commonOnes mX5_commonOnes 0 := ⟨tw_at 1035 (by decide +kernel) rfl, tw_at 1037 (by decide +kernel) rfl, tw_at 45 (by decide +kernel) rfl, tw_at 78 (by decide +kernel) rfl, tw_at 1038 (by decide +kernel) rfl, by decide +kernel⟩
theorem kV_X5_198 : sg_LV RX5 198 RX5 yX5_blamedInAll mX5_blamedInAll 0 := ⟨tw_at 1043 (by decide +kernel) rfl, tw_at 1045 (by decide +kernel) rfl, tw_at 47 (by decide +kernel) rfl, tw_at 78 (by decide +kernel) rfl, tw_at 1046 (by decide +kernel) rfl, by decide +kernel⟩
theorem kV_X5_201 : sg_LV RX5 201 RX5 yX5_blamedMost mX5_blamedMost 0 := ⟨tw_at 1047 (by decide +kernel) rfl, tw_at 1049 (by decide +kernel) rfl, tw_at 48 (by decide +kernel) rfl, tw_at 78 (by decide +kernel) rfl, tw_at 1050 (by decide +kernel) rfl, by decide +kernel⟩
theorem kV_X5_204 : sg_LV RX5 204 RX5 yX5_deafOnes mX5_deafOnes 0 := ⟨tw_at 1051 (by decide +kernel) rfl, tw_at 1053 (by decide +kernel) rfl, tw_at 49 (by decide +kernel) rfl, tw_at 78 (by decide +kernel) rfl, tw_at 1054 (by decide +kernel) rfl, by decide +kernel⟩
theorem kV_X5_207 : sg_LV RX5 207 RX5 yX5_fromNobody mX5_fromNobody 0 := ⟨tw_at 1055 (by decide +kernel) rfl, tw_at 1057 (by decide +kernel) rfl, tw_at 50 (by decide +kernel) rfl, tw_at 78 (by decide +kernel) rfl, tw_at 1058 (by decide +kernel) rfl, by decide +kernel⟩
theorem kV_X5_210 : sg_LV RX5 210 RX5 yX5_putBack mX5_putBack 1 := ⟨tw_at 1066 (by decide +kernel) rfl, tw_at 1068 (by decide +kernel) rfl, tw_at 51 (by decide +kernel) rfl, tw_at 78 (by decide +kernel) rfl, tw_at 1069 (by decide +kernel) rfl, by decide +kernel⟩
theorem kV_X5_213 : sg_LV RX5 213 RX5 yX5_behind mX5_behind 2 := ⟨tw_at 1074 (by decide +kernel) rfl, tw_at 1076 (by decide +kernel) rfl, tw_at 52 (by decide +kernel) rfl, tw_at 78 (by decide +kernel) rfl, tw_at 1077 (by decide +kernel) rfl, by decide +kernel⟩
theorem kV_X5_216 : sg_LV RX5 216 RX5 yX5_orNone mX5_orNone 1 := ⟨tw_at 1082 (by decide +kernel) rfl, tw_at 1084 (by decide +kernel) rfl, tw_at 53 (by decide +kernel) rfl, tw_at 78 (by decide +kernel) rfl, tw_at 1085 (by decide +kernel) rfl, by decide +kernel⟩
theorem kV_X5_219 : sg_LV RX5 219 RX5 yX5_daysTo mX5_daysTo 2 := ⟨tw_at 1090 (by decide +kernel) rfl, tw_at 1092 (by decide +kernel) rfl, tw_at 54 (by decide +kernel) rfl, tw_at 78 (by decide +kernel) rfl, tw_at 1093 (by decide +kernel) rfl, by decide +kernel⟩
theorem kV_X5_225 : sg_LV RX5 225 RX5 yX5_spreadBy mX5_spreadBy 3 := ⟨tw_at 1105 (by decide +kernel) rfl, tw_at 1107 (by decide +kernel) rfl, tw_at 55 (by decide +kernel) rfl, tw_at 78 (by decide +kernel) rfl, tw_at 1108 (by decide +kernel) rfl, by decide +kernel⟩
theorem kV_X5_228 : sg_LV RX5 228 RX5 yX5_staysAway mX5_staysAway 4 := ⟨tw_at 1125 (by decide +kernel) rfl, tw_at 1127 (by decide +kernel) rfl, tw_at 56 (by decide +kernel) rfl, tw_at 78 (by decide +kernel) rfl, tw_at 1128 (by decide +kernel) rfl, by decide +kernel⟩
theorem kV_X5_236 : sg_LV RX5 236 RX5 yX5_lacks mX5_lacks 2 := ⟨tw_at 1133 (by decide +kernel) rfl, tw_at 1135 (by decide +kernel) rfl, tw_at 57 (by decide +kernel) rfl, tw_at 78 (by decide +kernel) rfl, tw_at 1136 (by decide +kernel) rfl, by decide +kernel⟩
theorem kV_X5_240 : sg_LV RX5 240 RX5 yX5_isSo mX5_isSo 3 := ⟨tw_at 1141 (by decide +kernel) rfl, tw_at 1143 (by decide +kernel) rfl, tw_at 58 (by decide +kernel) rfl, tw_at 78 (by decide +kernel) rfl, tw_at 1144 (by decide +kernel) rfl, by decide +kernel⟩
theorem kV_X5_244 : sg_LV RX5 244 RX5 yX5_drawn mX5_drawn 0 := ⟨tw_at 1153 (by decide +kernel) rfl, tw_at 1155 (by decide +kernel) rfl, tw_at 59 (by decide +kernel) rfl, tw_at 78 (by decide +kernel) rfl, tw_at 1156 (by decide +kernel) rfl, by decide +kernel⟩
theorem kV_X5_257 : sg_LV RX5 257 RX5 yX5_byteAt mX5_byteAt 1 := ⟨tw_at 1182 (by decide +kernel) rfl, tw_at 1184 (by decide +kernel) rfl, tw_at 61 (by decide +kernel) rfl, tw_at 78 (by decide +kernel) rfl, tw_at 1185 (by decide +kernel) rfl, by decide +kernel⟩
theorem kV_X5_266 : sg_LV RX5 266 RJ0 yJ0_length_8abf5 mJ0_length_8abf5 0 := ⟨tw_at 1194 (by decide +kernel) rfl, tw_at 599 (by decide +kernel) rfl, tw_at 600 (by decide +kernel) rfl, tw_at 82 (by decide +kernel) rfl, tw_at 601 (by decide +kernel) rfl, by decide +kernel⟩
theorem kV_X5_269 : sg_LV RX5 269 RJ0 yJ0_charAt_5068e mJ0_charAt_5068e 1 := ⟨tw_at 1195 (by decide +kernel) rfl, tw_at 609 (by decide +kernel) rfl, tw_at 610 (by decide +kernel) rfl, tw_at 82 (by decide +kernel) rfl, tw_at 611 (by decide +kernel) rfl, by decide +kernel⟩
theorem kV_X5_277 : sg_LV RX5 277 RX5 yX5_token mX5_token 0 := ⟨tw_at 1178 (by decide +kernel) rfl, tw_at 1180 (by decide +kernel) rfl, tw_at 60 (by decide +kernel) rfl, tw_at 78 (by decide +kernel) rfl, tw_at 1181 (by decide +kernel) rfl, by decide +kernel⟩
theorem kV_X5_280 : sg_LV RX5 280 RX5 yX5_must mX5_must 1 := ⟨tw_at 1200 (by decide +kernel) rfl, tw_at 1202 (by decide +kernel) rfl, tw_at 65 (by decide +kernel) rfl, tw_at 78 (by decide +kernel) rfl, tw_at 1203 (by decide +kernel) rfl, by decide +kernel⟩
theorem kV_X5_287 : sg_LV RX5 287 RX5 yX5_isWord mX5_isWord 1 := ⟨tw_at 1190 (by decide +kernel) rfl, tw_at 1192 (by decide +kernel) rfl, tw_at 63 (by decide +kernel) rfl, tw_at 78 (by decide +kernel) rfl, tw_at 1193 (by decide +kernel) rfl, by decide +kernel⟩
theorem kV_X5_296 : sg_LV RX5 296 RX5 yX5_takesWord mX5_takesWord 1 := ⟨tw_at 1205 (by decide +kernel) rfl, tw_at 1207 (by decide +kernel) rfl, tw_at 66 (by decide +kernel) rfl, tw_at 78 (by decide +kernel) rfl, tw_at 1208 (by decide +kernel) rfl, by decide +kernel⟩
theorem kV_X5_299 : sg_LV RX5 299 RX5 yX5_number mX5_number 2 := ⟨tw_at 1209 (by decide +kernel) rfl, tw_at 1211 (by decide +kernel) rfl, tw_at 67 (by decide +kernel) rfl, tw_at 78 (by decide +kernel) rfl, tw_at 1212 (by decide +kernel) rfl, by decide +kernel⟩
theorem kV_X5_304 : sg_LV RX5 304 RX5 yX5_addItem mX5_addItem 4 := ⟨tw_at 1214 (by decide +kernel) rfl, tw_at 1216 (by decide +kernel) rfl, tw_at 68 (by decide +kernel) rfl, tw_at 78 (by decide +kernel) rfl, tw_at 1217 (by decide +kernel) rfl, by decide +kernel⟩
theorem kV_X5_311 : sg_LV RX5 311 RX5 yX5_readPerson mX5_readPerson 1 := ⟨tw_at 1196 (by decide +kernel) rfl, tw_at 1198 (by decide +kernel) rfl, tw_at 64 (by decide +kernel) rfl, tw_at 78 (by decide +kernel) rfl, tw_at 1199 (by decide +kernel) rfl, by decide +kernel⟩
theorem kV_X5_316 : sg_LV RX5 316 RX5 yX5_readSaying mX5_readSaying 0 := ⟨tw_at 1219 (by decide +kernel) rfl, tw_at 1221 (by decide +kernel) rfl, tw_at 69 (by decide +kernel) rfl, tw_at 78 (by decide +kernel) rfl, tw_at 1222 (by decide +kernel) rfl, by decide +kernel⟩
theorem kV_X5_321 : sg_LV RX5 321 RX5 yX5_readItem mX5_readItem 0 := ⟨tw_at 1186 (by decide +kernel) rfl, tw_at 1188 (by decide +kernel) rfl, tw_at 62 (by decide +kernel) rfl, tw_at 78 (by decide +kernel) rfl, tw_at 1189 (by decide +kernel) rfl, by decide +kernel⟩
theorem kV_X5_324 : sg_LV RX5 324 RX5 yX5_isToldSo mX5_isToldSo 1 := ⟨tw_at 1224 (by decide +kernel) rfl, tw_at 1226 (by decide +kernel) rfl, tw_at 70 (by decide +kernel) rfl, tw_at 78 (by decide +kernel) rfl, tw_at 1227 (by decide +kernel) rfl, by decide +kernel⟩
theorem kV_J0_335 : sg_LV RJ0 335 RJ0 yJ0_coder_7d493 mJ0_coder_7d493 0 := ⟨tw_at 602 (by decide +kernel) rfl, tw_at 603 (by decide +kernel) rfl, tw_at 604 (by decide +kernel) rfl, tw_at 82 (by decide +kernel) rfl, tw_at 605 (by decide +kernel) rfl, by decide +kernel⟩
theorem kV_J0_492 : sg_LV RJ0 492 RJ0 yJ0_isLatin1_aae02 mJ0_isLatin1_aae02 0 := ⟨tw_at 612 (by decide +kernel) rfl, tw_at 613 (by decide +kernel) rfl, tw_at 614 (by decide +kernel) rfl, tw_at 82 (by decide +kernel) rfl, tw_at 615 (by decide +kernel) rfl, by decide +kernel⟩
theorem kA_n : Cond.native arraycopyName ∈ tw := tw_at 454 (by decide +kernel) rfl
theorem kA_s : Cond.static arraycopyName ∈ tw := tw_at 453 (by decide +kernel) rfl
theorem kA_i : Cond.initialized "java/lang/System" ∈ tw := tw_at 81 (by decide +kernel) rfl
theorem kN_s : Cond.static yX4_within ∈ tw := tw_at 263 (by decide +kernel) rfl
theorem kN_i : Cond.initialized yX4_within.cls ∈ tw := tw_at 72 (by decide +kernel) rfl
theorem kN_c : Cond.code yX4_within mX4_within.2.1 mX4_within.2.2.1 mX4_within.2.2.2 ∈ tw := tw_at 264 (by decide +kernel) rfl
end
section
theorem kB_6 : (Int8.ofInt (6)).toInt32 = 6 := by decide
theorem kB_7 : (Int8.ofInt (7)).toInt32 = 7 := by decide
theorem kB_8 : (Int8.ofInt (8)).toInt32 = 8 := by decide
theorem kB_9 : (Int8.ofInt (9)).toInt32 = 9 := by decide
theorem kB_10 : (Int8.ofInt (10)).toInt32 = 10 := by decide
theorem kB_11 : (Int8.ofInt (11)).toInt32 = 11 := by decide
theorem kB_16 : (Int8.ofInt (16)).toInt32 = 16 := by decide
theorem kB_18 : (Int8.ofInt (18)).toInt32 = 18 := by decide
theorem kB_20 : (Int8.ofInt (20)).toInt32 = 20 := by decide
theorem kB_21 : (Int8.ofInt (21)).toInt32 = 21 := by decide
theorem kB_32 : (Int8.ofInt (32)).toInt32 = 32 := by decide
theorem kB_40 : (Int8.ofInt (40)).toInt32 = 40 := by decide
theorem kB_48 : (Int8.ofInt (48)).toInt32 = 48 := by decide
theorem kB_53 : (Int8.ofInt (53)).toInt32 = 53 := by decide
theorem kB_57 : (Int8.ofInt (57)).toInt32 = 57 := by decide
theorem kB_59 : (Int8.ofInt (59)).toInt32 = 59 := by decide
theorem kB_60 : (Int8.ofInt (60)).toInt32 = 60 := by decide
theorem kB_63 : (Int8.ofInt (63)).toInt32 = 63 := by decide
theorem kB_64 : (Int8.ofInt (64)).toInt32 = 64 := by decide
theorem kB_97 : (Int8.ofInt (97)).toInt32 = 97 := by decide
theorem kB_100 : (Int8.ofInt (100)).toInt32 = 100 := by decide
theorem kB_119 : (Int8.ofInt (119)).toInt32 = 119 := by decide
theorem kB_120 : (Int8.ofInt (120)).toInt32 = 120 := by decide
theorem kB_122 : (Int8.ofInt (122)).toInt32 = 122 := by decide
theorem kI_m1 : Int32.ofInt (-1) = (-1) := by decide
theorem kI_0 : Int32.ofInt (0) = 0 := by decide
theorem kI_1 : Int32.ofInt (1) = 1 := by decide
theorem kI_2 : Int32.ofInt (2) = 2 := by decide
theorem kI_3 : Int32.ofInt (3) = 3 := by decide
theorem kI_4 : Int32.ofInt (4) = 4 := by decide
theorem kI_5 : Int32.ofInt (5) = 5 := by decide
theorem kH_200 : (Int16.ofInt (200)).toInt32 = 200 := by decide
theorem kH_255 : (Int16.ofInt (255)).toInt32 = 255 := by decide
theorem kH_9999 : (Int16.ofInt (9999)).toInt32 = 9999 := by decide
theorem kH_10000 : (Int16.ofInt (10000)).toInt32 = 10000 := by decide
theorem kH_12345 : (Int16.ofInt (12345)).toInt32 = 12345 := by decide
section EX
variable {M N : sg_M} {R rm : Room} {pc nx tgt : Nat} {ls : List (Option Value)} {st stk As : List Value} {σ : sg_S} {α β : Type} {emb : α → sg_X} {X : Option α} {y : MethodName}
def jmin (x y : Int32) : Int32 := if y < x then y else x
theorem ev_min {idx : Nat} {x y : Int32} (hd : Ins M pc nx 3 (.invokestatic idx)) (w1 : Cond.methodLink M.1 idx Lib.Math.min.name ∈ tw) (w2 : Cond.static Lib.Math.min.name ∈ tw) (w3 : Cond.initialized "java/lang/Math" ∈ tw) (w4 : Cond.code Lib.Math.min.name Lib.Math.min.code 2 (some .int) ∈ tw) (hst : st.length ≤ 4) (hR : 1 ≤ R.frames ∧ 21 ≤ R.locals)
    (k : Ev M R nx ls (.int (jmin x y) :: st) σ emb X) : Ev M R pc ls (.int y :: .int x :: st) σ emb X := by
  intro a ha l G p e s m args below meth c H locs lsA cells slots Q C hH hL hc hF
  obtain ⟨h1, rfl⟩ := hd
  have hts := C.2.2.2.2.1
  simp only [List.map_cons]
  refine va_mmin C.1 C.2.1 (by rw [C.2.2.1]; exact hL.1.symm) C.2.2.2.1 (hts _ w1) (hts _ w2) (hts _ w3) (hts _ w4) hR.1 ?_ hc.1 hc.2 h1 (k a ha l G p e s m args below meth c H locs lsA cells slots Q C hH hL hc hF)
  have h5 := sg_sum (st.map (sg_v G))
  rw [List.length_map] at h5
  omega
end EX

theorem kM_X4_250 : Cond.methodLink RX4 250 Lib.Math.min.name ∈ tw := tw_at 735 (by decide +kernel) rfl
theorem kM_X2_53 : Cond.methodLink RX2 53 Lib.Math.min.name ∈ tw := tw_at 654 (by decide +kernel) rfl
theorem kM_X3_107 : Cond.methodLink RX3 107 Lib.Math.min.name ∈ tw := tw_at 397 (by decide +kernel) rfl
theorem kM_X5_153 : Cond.methodLink RX5 153 Lib.Math.min.name ∈ tw := tw_at 1019 (by decide +kernel) rfl
theorem kM_s : Cond.static Lib.Math.min.name ∈ tw := tw_at 398 (by decide +kernel) rfl
theorem kM_i : Cond.initialized "java/lang/Math" ∈ tw := tw_at 79 (by decide +kernel) rfl
theorem kM_c : Cond.code Lib.Math.min.name Lib.Math.min.code 2 (some .int) ∈ tw := tw_at 399 (by decide +kernel) rfl
end
section
def jd6_bitCount (σ : sg_S) (a0 : Int32) : Option Int32 :=
  sg_leti (a0 - ((jushr a0 1) &&& 1431655765)) (fun x1 => sg_leti ((x1 &&& 858993459) + ((jushr x1 2) &&& 858993459)) (fun x2 => sg_leti ((x2 + (jushr x2 4)) &&& 252645135) (fun x3 => sg_leti (x3 + (jushr x3 8)) (fun x4 => sg_leti (x4 + (jushr x4 16)) (fun x5 => some (x5 &&& 63))))))
set_option maxRecDepth 20000 in
set_option maxHeartbeats 2000000 in
theorem c_jd6_bitCount (σ : sg_S) (a0 : Int32)  : sg_Call yJ6_bitCount_0f7a4 mJ6_bitCount_0f7a4 (rmL 0) [.int a0] σ (eRI σ) (jd6_bitCount σ a0) := by
  refine sg_call_of (by decide +kernel) rfl (Nat.le_of_ble_eq_true rfl) rfl (fun _ => rfl) ?_
  refine ev_less (ls2 := [some (.int a0)]) ?_ ⟨rfl, trivial⟩
  unfold jd6_bitCount
  refine ev_iload_n iJ6_bitCount_0f7a4_0 rfl rfl ?_
  refine ev_iload_n iJ6_bitCount_0f7a4_1 rfl rfl ?_
  refine ev_iconst iJ6_bitCount_0f7a4_2 kI_1 ?_
  refine ev_iushr iJ6_bitCount_0f7a4_3 ?_
  refine ev_ldcw iJ6_bitCount_0f7a4_4 kC_J6_265 ?_
  refine ev_iand iJ6_bitCount_0f7a4_7 ?_
  refine ev_isub iJ6_bitCount_0f7a4_8 ?_
  refine ev_leti (fun x1 => ?_)
  refine ev_istore_n (ls2 := [some (.int x1)]) iJ6_bitCount_0f7a4_9 rfl (Nat.le_of_ble_eq_true rfl) (Nat.le_of_ble_eq_true rfl) rfl rfl ?_
  refine ev_iload_n iJ6_bitCount_0f7a4_10 rfl rfl ?_
  refine ev_ldcw iJ6_bitCount_0f7a4_11 kC_J6_266 ?_
  refine ev_iand iJ6_bitCount_0f7a4_14 ?_
  refine ev_iload_n iJ6_bitCount_0f7a4_15 rfl rfl ?_
  refine ev_iconst iJ6_bitCount_0f7a4_16 kI_2 ?_
  refine ev_iushr iJ6_bitCount_0f7a4_17 ?_
  refine ev_ldcw iJ6_bitCount_0f7a4_18 kC_J6_266 ?_
  refine ev_iand iJ6_bitCount_0f7a4_21 ?_
  refine ev_iadd iJ6_bitCount_0f7a4_22 ?_
  refine ev_leti (fun x2 => ?_)
  refine ev_istore_n (ls2 := [some (.int x2)]) iJ6_bitCount_0f7a4_23 rfl (Nat.le_of_ble_eq_true rfl) (Nat.le_of_ble_eq_true rfl) rfl rfl ?_
  refine ev_iload_n iJ6_bitCount_0f7a4_24 rfl rfl ?_
  refine ev_iload_n iJ6_bitCount_0f7a4_25 rfl rfl ?_
  refine ev_iconst iJ6_bitCount_0f7a4_26 kI_4 ?_
  refine ev_iushr iJ6_bitCount_0f7a4_27 ?_
  refine ev_iadd iJ6_bitCount_0f7a4_28 ?_
  refine ev_ldcw iJ6_bitCount_0f7a4_29 kC_J6_267 ?_
  refine ev_iand iJ6_bitCount_0f7a4_32 ?_
  refine ev_leti (fun x3 => ?_)
  refine ev_istore_n (ls2 := [some (.int x3)]) iJ6_bitCount_0f7a4_33 rfl (Nat.le_of_ble_eq_true rfl) (Nat.le_of_ble_eq_true rfl) rfl rfl ?_
  refine ev_iload_n iJ6_bitCount_0f7a4_34 rfl rfl ?_
  refine ev_iload_n iJ6_bitCount_0f7a4_35 rfl rfl ?_
  refine ev_bipush iJ6_bitCount_0f7a4_36 kB_8 ?_
  refine ev_iushr iJ6_bitCount_0f7a4_38 ?_
  refine ev_iadd iJ6_bitCount_0f7a4_39 ?_
  refine ev_leti (fun x4 => ?_)
  refine ev_istore_n (ls2 := [some (.int x4)]) iJ6_bitCount_0f7a4_40 rfl (Nat.le_of_ble_eq_true rfl) (Nat.le_of_ble_eq_true rfl) rfl rfl ?_
  refine ev_iload_n iJ6_bitCount_0f7a4_41 rfl rfl ?_
  refine ev_iload_n iJ6_bitCount_0f7a4_42 rfl rfl ?_
  refine ev_bipush iJ6_bitCount_0f7a4_43 kB_16 ?_
  refine ev_iushr iJ6_bitCount_0f7a4_45 ?_
  refine ev_iadd iJ6_bitCount_0f7a4_46 ?_
  refine ev_leti (fun x5 => ?_)
  refine ev_istore_n (ls2 := [some (.int x5)]) iJ6_bitCount_0f7a4_47 rfl (Nat.le_of_ble_eq_true rfl) (Nat.le_of_ble_eq_true rfl) rfl rfl ?_
  refine ev_iload_n iJ6_bitCount_0f7a4_48 rfl rfl ?_
  refine ev_bipush iJ6_bitCount_0f7a4_49 kB_63 ?_
  refine ev_iand iJ6_bitCount_0f7a4_51 ?_
  exact ev_iret iJ6_bitCount_0f7a4_52 rfl (narI rfl _)
def jd0_coder (σ : sg_S) (w0 : Nat) : Option Int32 :=
  (if (1 : Int32) = 0 then some 1 else some 0)
set_option maxRecDepth 20000 in
set_option maxHeartbeats 2000000 in
theorem c_jd0_coder (σ : sg_S) (w0 : Nat) (hw0 : w0 < 12) : sg_Call yJ0_coder_7d493 mJ0_coder_7d493 (rmL 0) [.ref (100 + w0)] σ (eRI σ) (jd0_coder σ w0) := by
  refine sg_call_of (by decide +kernel) rfl (Nat.le_of_ble_eq_true rfl) rfl (fun _ => rfl) ?_
  refine ev_less (ls2 := [some (.ref (100 + w0))]) ?_ ⟨rfl, trivial⟩
  unfold jd0_coder
  refine ev_compact iJ0_coder_7d493_0 kG_J0_38 ?_
  refine ev_if_eq iJ0_coder_7d493_3 ?_ ?_
  · refine ev_iconst iJ0_coder_7d493_13 kI_1 ?_
    exact ev_iret iJ0_coder_7d493_14 rfl (fun ty _ => nar1 ty)
  · refine ev_aload_n iJ0_coder_7d493_6 rfl (ne_W hw0) rfl ?_
    refine ev_strCoder iJ0_coder_7d493_7 hw0 kG_J0_15 ?_
    refine ev_goto iJ0_coder_7d493_10 ?_
    exact ev_iret iJ0_coder_7d493_14 rfl (fun ty _ => nar0 ty)
def jd0_isLatin1 (σ : sg_S) (w0 : Nat) : Option Int32 :=
  (if (1 : Int32) = 0 then some 0 else (if (0 : Int32) = 0 then some 1 else some 0))
set_option maxRecDepth 20000 in
set_option maxHeartbeats 2000000 in
theorem c_jd0_isLatin1 (σ : sg_S) (w0 : Nat) (hw0 : w0 < 12) : sg_Call yJ0_isLatin1_aae02 mJ0_isLatin1_aae02 (rmL 0) [.ref (100 + w0)] σ (eRI σ) (jd0_isLatin1 σ w0) := by
  refine sg_call_of (by decide +kernel) rfl (Nat.le_of_ble_eq_true rfl) rfl (fun _ => rfl) ?_
  refine ev_less (ls2 := [some (.ref (100 + w0))]) ?_ ⟨rfl, trivial⟩
  unfold jd0_isLatin1
  refine ev_compact iJ0_isLatin1_aae02_0 kG_J0_38 ?_
  refine ev_if_eq iJ0_isLatin1_aae02_3 ?_ ?_
  · refine ev_iconst iJ0_isLatin1_aae02_17 kI_0 ?_
    exact ev_iret iJ0_isLatin1_aae02_18 rfl (fun ty _ => nar0 ty)
  · refine ev_aload_n iJ0_isLatin1_aae02_6 rfl (ne_W hw0) rfl ?_
    refine ev_strCoder iJ0_isLatin1_aae02_7 hw0 kG_J0_15 ?_
    refine ev_if_ne iJ0_isLatin1_aae02_10 ?_ ?_
    · refine ev_iconst iJ0_isLatin1_aae02_13 kI_1 ?_
      refine ev_goto iJ0_isLatin1_aae02_14 ?_
      exact ev_iret iJ0_isLatin1_aae02_18 rfl (fun ty _ => nar1 ty)
    · refine ev_iconst iJ0_isLatin1_aae02_17 kI_0 ?_
      exact ev_iret iJ0_isLatin1_aae02_18 rfl (fun ty _ => nar0 ty)
def jd7_fill_5_X (σ : sg_S) (k0 n0 : Nat) (f1 : Int32) (f3 : Int32) : ((Int32 × sg_S) ⊕ sg_S) → sg_X
  | .inl a => .inr (5, [some (.ref k0), some (.int f1), some (.int a.1), some (.int f3)], a.2)
  | .inr e => .inr (20, [none, none, none, none], e)
def jd7_fill_5_L (σ : sg_S) (k0 n0 : Nat) (f1 : Int32) (f3 : Int32) (a : (Int32 × sg_S)) : Option ((Int32 × sg_S) ⊕ sg_S) :=
  (if a.1 < f3 then (if sg_in a.1 n0 = true then sg_let (sg_st a.2 k0 a.1.toNatClampNeg f1) (fun s2 => some (.inl ((a.1 + 1), s2))) else none) else some (.inr a.2))
set_option maxRecDepth 20000 in
set_option maxHeartbeats 2000000 in
theorem e_jd7_fill_5_L (σ : sg_S) (k0 n0 : Nat) (f1 : Int32) (f3 : Int32) (hk0 : sg_A k0 = some n0) : ∀ a : (Int32 × sg_S), Ev mJ7_fill_53178 (rmL 0) 5 [some (.ref k0), some (.int f1), some (.int a.1), some (.int f3)] [] a.2 (jd7_fill_5_X σ k0 n0 f1 f3) (jd7_fill_5_L σ k0 n0 f1 f3 a) := by
  intro a
  unfold jd7_fill_5_L
  refine ev_iload_n iJ7_fill_53178_5 rfl rfl ?_
  refine ev_iload_n iJ7_fill_53178_6 rfl rfl ?_
  refine ev_icmp_ge iJ7_fill_53178_7 ?_ ?_
  · refine ev_aload_n iJ7_fill_53178_10 rfl (sg_A_ne hk0) rfl ?_
    refine ev_iload_n iJ7_fill_53178_11 rfl rfl ?_
    refine ev_iload_n iJ7_fill_53178_12 rfl rfl ?_
    refine ev_iast iJ7_fill_53178_13 hk0 ?_
    refine ev_let (fun s2 => ?_)
    refine ev_iinc (v := (a.1 + 1)) (ls2 := [some (.ref k0), some (.int f1), some (.int (a.1 + 1)), some (.int f3)]) iJ7_fill_53178_14 rfl (by rw [kI_1]) (Nat.le_of_ble_eq_true rfl) rfl rfl ?_
    refine ev_goto iJ7_fill_53178_17 ?_
    exact ev_exit rfl ⟨rfl, rfl, rfl, rfl, trivial⟩
  · exact ev_exit rfl trivial
def jd7_fill (σ : sg_S) (k0 n0 : Nat) (a1 : Int32) : Option sg_S :=
  sg_leti (Int32.ofNat n0) (fun x1 => ((sg_lp (jd7_fill_5_L σ k0 n0 a1 x1) 1000 (0, σ)).bind fun e3 => some e3))
set_option maxRecDepth 20000 in
set_option maxHeartbeats 2000000 in
theorem c_jd7_fill (σ : sg_S) (k0 n0 : Nat) (a1 : Int32) (hk0 : sg_A k0 = some n0) : sg_Call yJ7_fill_53178 mJ7_fill_53178 (rmL 0) [.ref k0, .int a1] σ eMV (jd7_fill σ k0 n0 a1) := by
  refine sg_call_of (by decide +kernel) rfl (Nat.le_of_ble_eq_true rfl) rfl (fun _ => rfl) ?_
  refine ev_less (ls2 := [some (.ref k0), some (.int a1), none, none]) ?_ ⟨rfl, rfl, trivial⟩
  unfold jd7_fill
  refine ev_iconst iJ7_fill_53178_0 kI_0 ?_
  refine ev_istore_n (ls2 := [some (.ref k0), some (.int a1), some (.int 0), none]) iJ7_fill_53178_1 rfl (Nat.le_of_ble_eq_true rfl) (Nat.le_of_ble_eq_true rfl) rfl rfl ?_
  refine ev_aload_n iJ7_fill_53178_2 rfl (sg_A_ne hk0) rfl ?_
  refine ev_alen iJ7_fill_53178_3 hk0 rfl ?_
  refine ev_leti (fun x1 => ?_)
  refine ev_istore_n (ls2 := [some (.ref k0), some (.int a1), some (.int 0), some (.int x1)]) iJ7_fill_53178_4 rfl (Nat.le_of_ble_eq_true rfl) (Nat.le_of_ble_eq_true rfl) rfl rfl ?_
  refine ev_less (ls2 := [some (.ref k0), some (.int a1), some (.int 0), some (.int x1)]) ?_ ⟨rfl, rfl, rfl, rfl, trivial⟩
  refine ev_seq1 20 (fun e => [none, none, none, none]) (fun e => e) (ev_loop (embB := jd7_fill_5_X σ k0 n0 a1 x1) (ex := fun b => jd7_fill_5_X σ k0 n0 a1 x1 (.inr b)) 5 (fun a => [some (.ref k0), some (.int a1), some (.int a.1), some (.int x1)]) (fun a => a.2) (fun _ => rfl) (fun _ => rfl) (e_jd7_fill_5_L σ k0 n0 a1 x1 hk0) 1000 (0, σ)) (fun _ => rfl) (fun e3 => ?_)
  exact ev_vret iJ7_fill_53178_20 rfl
def jd3_checkIndex (σ : sg_S) (a0 : Int32) (a1 : Int32) : Option Int32 :=
  (if a0 < 0 then none else (if a0 < a1 then some a0 else none))
set_option maxRecDepth 20000 in
set_option maxHeartbeats 2000000 in
theorem c_jd3_checkIndex (σ : sg_S) (a0 : Int32) (a1 : Int32)  : sg_Call yJ3_checkIndex_8e157 mJ3_checkIndex_8e157 (rmL 0) [.int a0, .int a1, .ref 140] σ (eRI σ) (jd3_checkIndex σ a0 a1) := by
  refine sg_call_of (by decide +kernel) rfl (Nat.le_of_ble_eq_true rfl) rfl (fun _ => rfl) ?_
  refine ev_less (ls2 := [some (.int a0), some (.int a1), some (.ref 140)]) ?_ ⟨rfl, rfl, rfl, trivial⟩
  unfold jd3_checkIndex
  refine ev_iload_n iJ3_checkIndex_8e157_0 rfl rfl ?_
  refine ev_if_lt iJ3_checkIndex_8e157_1 ?_ ?_
  · exact ev_none
  · refine ev_iload_n iJ3_checkIndex_8e157_4 rfl rfl ?_
    refine ev_iload_n iJ3_checkIndex_8e157_5 rfl rfl ?_
    refine ev_icmp_lt iJ3_checkIndex_8e157_6 ?_ ?_
    · refine ev_iload_n iJ3_checkIndex_8e157_16 rfl rfl ?_
      exact ev_iret iJ3_checkIndex_8e157_17 rfl (narI rfl _)
    · exact ev_none
def jd0_length (σ : sg_S) (w0 : Nat) : Option Int32 :=
  ((jd0_coder σ w0).bind fun r1 => some (jshr (Int32.ofNat (sg_len.getD w0 0)) r1))
set_option maxRecDepth 20000 in
set_option maxHeartbeats 2000000 in
theorem c_jd0_length (σ : sg_S) (w0 : Nat) (hw0 : w0 < 12) : sg_Call yJ0_length_8abf5 mJ0_length_8abf5 (rmL 1) [.ref (100 + w0)] σ (eRI σ) (jd0_length σ w0) := by
  refine sg_call_of (by decide +kernel) rfl (Nat.le_of_ble_eq_true rfl) rfl (fun _ => rfl) ?_
  refine ev_less (ls2 := [some (.ref (100 + w0))]) ?_ ⟨rfl, trivial⟩
  unfold jd0_length
  refine ev_aload_n iJ0_length_8abf5_0 rfl (ne_W hw0) rfl ?_
  refine ev_strValue iJ0_length_8abf5_1 hw0 kG_J0_9 ?_
  refine ev_alenB iJ0_length_8abf5_4 hw0 ?_
  refine ev_aload_n iJ0_length_8abf5_5 rfl (ne_W hw0) rfl ?_
  refine ev_VRI iJ0_length_8abf5_6 kV_J0_335 (c_jd0_coder σ w0 hw0) (rc_W hw0) rfl rfl (Nat.le_of_ble_eq_true rfl) (sg_fitL (by decide) (Nat.le_of_ble_eq_true rfl)) (fun r1 => ?_)
  refine ev_ishr iJ0_length_8abf5_9 ?_
  exact ev_iret iJ0_length_8abf5_10 rfl (narI rfl _)
def jd0_checkIndex (σ : sg_S) (a0 : Int32) (a1 : Int32) : Option Unit :=
  ((jd3_checkIndex σ a0 a1).bind fun r1 => some ())
set_option maxRecDepth 20000 in
set_option maxHeartbeats 2000000 in
theorem c_jd0_checkIndex (σ : sg_S) (a0 : Int32) (a1 : Int32)  : sg_Call yJ0_checkIndex_df160 mJ0_checkIndex_df160 (rmL 1) [.int a0, .int a1] σ (eRV σ) (jd0_checkIndex σ a0 a1) := by
  refine sg_call_of (by decide +kernel) rfl (Nat.le_of_ble_eq_true rfl) rfl (fun _ => rfl) ?_
  refine ev_less (ls2 := [some (.int a0), some (.int a1)]) ?_ ⟨rfl, rfl, trivial⟩
  unfold jd0_checkIndex
  refine ev_iload_n iJ0_checkIndex_df160_0 rfl rfl ?_
  refine ev_iload_n iJ0_checkIndex_df160_1 rfl rfl ?_
  refine ev_fmt iJ0_checkIndex_df160_2 kG_J0_1053 ?_
  refine ev_SRI iJ0_checkIndex_df160_5 kS_J0_1059 (c_jd3_checkIndex σ a0 a1) rfl rfl (Nat.le_of_ble_eq_true rfl) (sg_fitL (by decide) (Nat.le_of_ble_eq_true rfl)) (fun r1 => ?_)
  refine ev_popI iJ0_checkIndex_df160_8 ?_
  exact ev_vret iJ0_checkIndex_df160_9 rfl
def jd1_charAt (σ : sg_S) (w0 : Nat) (a1 : Int32) : Option Int32 :=
  ((jd0_checkIndex σ a1 (Int32.ofNat (sg_len.getD w0 0))).bind fun _ => (if sg_in a1 (sg_len.getD w0 0) = true then (if vp_nar .char (((((sg_byt.getD w0 []).getD a1.toNatClampNeg 0) &&& 255).toUInt32 % 65536).toInt32) = ((((sg_byt.getD w0 []).getD a1.toNatClampNeg 0) &&& 255).toUInt32 % 65536).toInt32 then some (((((sg_byt.getD w0 []).getD a1.toNatClampNeg 0) &&& 255).toUInt32 % 65536).toInt32) else none) else none))
set_option maxRecDepth 20000 in
set_option maxHeartbeats 2000000 in
theorem c_jd1_charAt (σ : sg_S) (w0 : Nat) (a1 : Int32) (hw0 : w0 < 12) : sg_Call yJ1_charAt_3b067 mJ1_charAt_3b067 (rmL 2) [.ref (120 + w0), .int a1] σ (eRI σ) (jd1_charAt σ w0 a1) := by
  refine sg_call_of (by decide +kernel) rfl (Nat.le_of_ble_eq_true rfl) rfl (fun _ => rfl) ?_
  refine ev_less (ls2 := [some (.ref (120 + w0)), some (.int a1)]) ?_ ⟨rfl, rfl, trivial⟩
  unfold jd1_charAt
  refine ev_iload_n iJ1_charAt_3b067_0 rfl rfl ?_
  refine ev_aload_n iJ1_charAt_3b067_1 rfl (ne_B hw0) rfl ?_
  refine ev_alenB iJ1_charAt_3b067_2 hw0 ?_
  refine ev_SRV iJ1_charAt_3b067_3 kS_J1_9 (c_jd0_checkIndex σ a1 (Int32.ofNat (sg_len.getD w0 0))) rfl rfl (Nat.le_of_ble_eq_true rfl) (sg_fitL (by decide) (Nat.le_of_ble_eq_true rfl)) (fun r1 => ?_)
  refine ev_aload_n iJ1_charAt_3b067_6 rfl (ne_B hw0) rfl ?_
  refine ev_iload_n iJ1_charAt_3b067_7 rfl rfl ?_
  refine ev_bald iJ1_charAt_3b067_8 hw0 ?_
  refine ev_sipush iJ1_charAt_3b067_9 kH_255 ?_
  refine ev_iand iJ1_charAt_3b067_12 ?_
  refine ev_i2c iJ1_charAt_3b067_13 ?_
  refine ev_nar (fun hn => ?_)
  exact ev_iret iJ1_charAt_3b067_14 rfl (narG rfl hn)
def jd0_charAt (σ : sg_S) (w0 : Nat) (a1 : Int32) : Option Int32 :=
  ((jd0_isLatin1 σ w0).bind fun r1 => (if r1 = 0 then none else ((jd1_charAt σ w0 a1).bind fun r2 => (if vp_nar .char r2 = r2 then some r2 else none))))
set_option maxRecDepth 20000 in
set_option maxHeartbeats 2000000 in
theorem c_jd0_charAt (σ : sg_S) (w0 : Nat) (a1 : Int32) (hw0 : w0 < 12) : sg_Call yJ0_charAt_5068e mJ0_charAt_5068e (rmL 3) [.ref (100 + w0), .int a1] σ (eRI σ) (jd0_charAt σ w0 a1) := by
  refine sg_call_of (by decide +kernel) rfl (Nat.le_of_ble_eq_true rfl) rfl (fun _ => rfl) ?_
  refine ev_less (ls2 := [some (.ref (100 + w0)), some (.int a1)]) ?_ ⟨rfl, rfl, trivial⟩
  unfold jd0_charAt
  refine ev_aload_n iJ0_charAt_5068e_0 rfl (ne_W hw0) rfl ?_
  refine ev_VRI iJ0_charAt_5068e_1 kV_J0_492 (c_jd0_isLatin1 σ w0 hw0) (rc_W hw0) rfl rfl (Nat.le_of_ble_eq_true rfl) (sg_fitL (by decide) (Nat.le_of_ble_eq_true rfl)) (fun r1 => ?_)
  refine ev_if_eq iJ0_charAt_5068e_4 ?_ ?_
  · refine ev_aload_n iJ0_charAt_5068e_16 rfl (ne_W hw0) rfl ?_
    refine ev_strValue iJ0_charAt_5068e_17 hw0 kG_J0_9 ?_
    refine ev_iload_n iJ0_charAt_5068e_20 rfl rfl ?_
    exact ev_none
  · refine ev_aload_n iJ0_charAt_5068e_7 rfl (ne_W hw0) rfl ?_
    refine ev_strValue iJ0_charAt_5068e_8 hw0 kG_J0_9 ?_
    refine ev_iload_n iJ0_charAt_5068e_11 rfl rfl ?_
    refine ev_SRI iJ0_charAt_5068e_12 kS_J0_495 (c_jd1_charAt σ w0 a1 hw0) rfl rfl (Nat.le_of_ble_eq_true rfl) (sg_fitL (by decide) (Nat.le_of_ble_eq_true rfl)) (fun r2 => ?_)
    refine ev_nar (fun hn => ?_)
    exact ev_iret iJ0_charAt_5068e_15 rfl (narG rfl hn)
end
