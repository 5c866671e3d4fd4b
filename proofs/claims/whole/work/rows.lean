section
-- ===== PART A: goes FIRST, ahead of the names: the tables' words, and 'selects' of the private methods out of them =====
/-- a private method of a class that the tables say can be made, by its rows of tables_1 -/
def lw_okq (q : MethodName × Nat) : Prop := (q.1.cls ≠ "java/lang/invoke/MethodHandle" ∧ q.1.cls ≠ "java/lang/invoke/VarHandle") ∧ Cond.instantiable q.1.cls q.2 ∈ tables_1 ∧ Cond.privateMethod q.1 ∈ tables_1 ∧ Cond.instanceMethod q.1 ∈ tables_1
theorem lw_p0 : lw_okq (⟨"NobodySaid", "finding", "(I)I"⟩, 7) := ⟨⟨by decide +kernel, by decide +kernel⟩, List.mem_of_getElem? (i := 16) (by decide +kernel), List.mem_of_getElem? (i := 195) (by decide +kernel), List.mem_of_getElem? (i := 196) (by decide +kernel)⟩
theorem lw_p1 : lw_okq (⟨"NobodySaid", "exchange", "([IIII)I"⟩, 7) := ⟨⟨by decide +kernel, by decide +kernel⟩, List.mem_of_getElem? (i := 16) (by decide +kernel), List.mem_of_getElem? (i := 244) (by decide +kernel), List.mem_of_getElem? (i := 245) (by decide +kernel)⟩
theorem lw_p2 : lw_okq (⟨"NobodySaid", "keepsFrom", "(IIII)Z"⟩, 7) := ⟨⟨by decide +kernel, by decide +kernel⟩, List.mem_of_getElem? (i := 16) (by decide +kernel), List.mem_of_getElem? (i := 425) (by decide +kernel), List.mem_of_getElem? (i := 426) (by decide +kernel)⟩
theorem lw_p3 : lw_okq (⟨"NobodySaid", "hearersAreAsTold", "(LNobodySaid$Sheet;I)Z"⟩, 7) := ⟨⟨by decide +kernel, by decide +kernel⟩, List.mem_of_getElem? (i := 16) (by decide +kernel), List.mem_of_getElem? (i := 441) (by decide +kernel), List.mem_of_getElem? (i := 442) (by decide +kernel)⟩
theorem lw_p4 : lw_okq (⟨"NobodySaid", "sayingsAreAsTold", "(LNobodySaid$Sheet;I)Z"⟩, 7) := ⟨⟨by decide +kernel, by decide +kernel⟩, List.mem_of_getElem? (i := 16) (by decide +kernel), List.mem_of_getElem? (i := 453) (by decide +kernel), List.mem_of_getElem? (i := 454) (by decide +kernel)⟩
theorem lw_p5 : lw_okq (⟨"NobodySaid$Tape", "goesOn", "(I)Z"⟩, 5) := ⟨⟨by decide +kernel, by decide +kernel⟩, List.mem_of_getElem? (i := 103) (by decide +kernel), List.mem_of_getElem? (i := 505) (by decide +kernel), List.mem_of_getElem? (i := 506) (by decide +kernel)⟩
theorem lw_p6 : lw_okq (⟨"NobodySaid$Tape", "tokenEnd", "(I)I"⟩, 5) := ⟨⟨by decide +kernel, by decide +kernel⟩, List.mem_of_getElem? (i := 103) (by decide +kernel), List.mem_of_getElem? (i := 515) (by decide +kernel), List.mem_of_getElem? (i := 516) (by decide +kernel)⟩
theorem lw_p7 : lw_okq (⟨"NobodySaid$Tape", "keepToken", "(III)V"⟩, 5) := ⟨⟨by decide +kernel, by decide +kernel⟩, List.mem_of_getElem? (i := 103) (by decide +kernel), List.mem_of_getElem? (i := 519) (by decide +kernel), List.mem_of_getElem? (i := 520) (by decide +kernel)⟩
theorem lw_p8 : lw_okq (⟨"NobodySaid$Tape", "wordNumber", "(II)I"⟩, 5) := ⟨⟨by decide +kernel, by decide +kernel⟩, List.mem_of_getElem? (i := 103) (by decide +kernel), List.mem_of_getElem? (i := 523) (by decide +kernel), List.mem_of_getElem? (i := 524) (by decide +kernel)⟩
theorem lw_p9 : lw_okq (⟨"NobodySaid$Tape", "isAlike", "(III)Z"⟩, 5) := ⟨⟨by decide +kernel, by decide +kernel⟩, List.mem_of_getElem? (i := 103) (by decide +kernel), List.mem_of_getElem? (i := 576) (by decide +kernel), List.mem_of_getElem? (i := 577) (by decide +kernel)⟩
theorem lw_p10 : lw_okq (⟨"NobodySaid$Tape", "worth", "(II)I"⟩, 5) := ⟨⟨by decide +kernel, by decide +kernel⟩, List.mem_of_getElem? (i := 103) (by decide +kernel), List.mem_of_getElem? (i := 580) (by decide +kernel), List.mem_of_getElem? (i := 581) (by decide +kernel)⟩
theorem lw_p11 : lw_okq (⟨"NobodySaid$Reader", "readItem", "()Z"⟩, 4) := ⟨⟨by decide +kernel, by decide +kernel⟩, List.mem_of_getElem? (i := 97) (by decide +kernel), List.mem_of_getElem? (i := 585) (by decide +kernel), List.mem_of_getElem? (i := 586) (by decide +kernel)⟩
theorem lw_p12 : lw_okq (⟨"NobodySaid$Reader", "isWord", "(I)Z"⟩, 4) := ⟨⟨by decide +kernel, by decide +kernel⟩, List.mem_of_getElem? (i := 97) (by decide +kernel), List.mem_of_getElem? (i := 589) (by decide +kernel), List.mem_of_getElem? (i := 590) (by decide +kernel)⟩
theorem lw_p13 : lw_okq (⟨"NobodySaid$Reader", "readSaying", "()Z"⟩, 4) := ⟨⟨by decide +kernel, by decide +kernel⟩, List.mem_of_getElem? (i := 97) (by decide +kernel), List.mem_of_getElem? (i := 593) (by decide +kernel), List.mem_of_getElem? (i := 594) (by decide +kernel)⟩
theorem lw_p14 : lw_okq (⟨"NobodySaid$Reader", "readNumbers", "(III)Z"⟩, 4) := ⟨⟨by decide +kernel, by decide +kernel⟩, List.mem_of_getElem? (i := 97) (by decide +kernel), List.mem_of_getElem? (i := 597) (by decide +kernel), List.mem_of_getElem? (i := 598) (by decide +kernel)⟩
theorem lw_p15 : lw_okq (⟨"NobodySaid$Reader", "step", "()V"⟩, 4) := ⟨⟨by decide +kernel, by decide +kernel⟩, List.mem_of_getElem? (i := 97) (by decide +kernel), List.mem_of_getElem? (i := 601) (by decide +kernel), List.mem_of_getElem? (i := 602) (by decide +kernel)⟩
def lw_privs_1 : List (MethodName × Nat) := [(⟨"NobodySaid", "finding", "(I)I"⟩, 7), (⟨"NobodySaid", "exchange", "([IIII)I"⟩, 7), (⟨"NobodySaid", "keepsFrom", "(IIII)Z"⟩, 7), (⟨"NobodySaid", "hearersAreAsTold", "(LNobodySaid$Sheet;I)Z"⟩, 7), (⟨"NobodySaid", "sayingsAreAsTold", "(LNobodySaid$Sheet;I)Z"⟩, 7), (⟨"NobodySaid$Tape", "goesOn", "(I)Z"⟩, 5), (⟨"NobodySaid$Tape", "tokenEnd", "(I)I"⟩, 5), (⟨"NobodySaid$Tape", "keepToken", "(III)V"⟩, 5), (⟨"NobodySaid$Tape", "wordNumber", "(II)I"⟩, 5), (⟨"NobodySaid$Tape", "isAlike", "(III)Z"⟩, 5), (⟨"NobodySaid$Tape", "worth", "(II)I"⟩, 5), (⟨"NobodySaid$Reader", "readItem", "()Z"⟩, 4), (⟨"NobodySaid$Reader", "isWord", "(I)Z"⟩, 4), (⟨"NobodySaid$Reader", "readSaying", "()Z"⟩, 4), (⟨"NobodySaid$Reader", "readNumbers", "(III)Z"⟩, 4), (⟨"NobodySaid$Reader", "step", "()V"⟩, 4)]
theorem lw_r1 : ∀ q ∈ lw_privs_1, lw_okq q := List.forall_mem_cons.mpr ⟨lw_p0, List.forall_mem_cons.mpr ⟨lw_p1, List.forall_mem_cons.mpr ⟨lw_p2, List.forall_mem_cons.mpr ⟨lw_p3, List.forall_mem_cons.mpr ⟨lw_p4, List.forall_mem_cons.mpr ⟨lw_p5, List.forall_mem_cons.mpr ⟨lw_p6, List.forall_mem_cons.mpr ⟨lw_p7, List.forall_mem_cons.mpr ⟨lw_p8, List.forall_mem_cons.mpr ⟨lw_p9, List.forall_mem_cons.mpr ⟨lw_p10, List.forall_mem_cons.mpr ⟨lw_p11, List.forall_mem_cons.mpr ⟨lw_p12, List.forall_mem_cons.mpr ⟨lw_p13, List.forall_mem_cons.mpr ⟨lw_p14, List.forall_mem_cons.mpr ⟨lw_p15, fun _ h => absurd h List.not_mem_nil⟩⟩⟩⟩⟩⟩⟩⟩⟩⟩⟩⟩⟩⟩⟩⟩
theorem lw_p16 : lw_okq (⟨"NobodySaid$Reader", "isNumber", "(I)Z"⟩, 4) := ⟨⟨by decide +kernel, by decide +kernel⟩, List.mem_of_getElem? (i := 97) (by decide +kernel), List.mem_of_getElem? (i := 605) (by decide +kernel), List.mem_of_getElem? (i := 606) (by decide +kernel)⟩
theorem lw_p17 : lw_okq (⟨"NobodySaid$Reader", "readTalk", "()Z"⟩, 4) := ⟨⟨by decide +kernel, by decide +kernel⟩, List.mem_of_getElem? (i := 97) (by decide +kernel), List.mem_of_getElem? (i := 610) (by decide +kernel), List.mem_of_getElem? (i := 611) (by decide +kernel)⟩
theorem lw_p18 : lw_okq (⟨"NobodySaid$Reader", "readPerson", "(I)Z"⟩, 4) := ⟨⟨by decide +kernel, by decide +kernel⟩, List.mem_of_getElem? (i := 97) (by decide +kernel), List.mem_of_getElem? (i := 615) (by decide +kernel), List.mem_of_getElem? (i := 616) (by decide +kernel)⟩
theorem lw_p19 : lw_okq (⟨"NobodySaidModel", "become", "(II)I"⟩, 21) := ⟨⟨by decide +kernel, by decide +kernel⟩, List.mem_of_getElem? (i := 694) (by decide +kernel), List.mem_of_getElem? (i := 786) (by decide +kernel), List.mem_of_getElem? (i := 787) (by decide +kernel)⟩
theorem lw_p20 : lw_okq (⟨"NobodySaidModel", "finding", "(I)I"⟩, 21) := ⟨⟨by decide +kernel, by decide +kernel⟩, List.mem_of_getElem? (i := 694) (by decide +kernel), List.mem_of_getElem? (i := 791) (by decide +kernel), List.mem_of_getElem? (i := 792) (by decide +kernel)⟩
theorem lw_p21 : lw_okq (⟨"NobodySaidModel", "comes", "(II)I"⟩, 21) := ⟨⟨by decide +kernel, by decide +kernel⟩, List.mem_of_getElem? (i := 694) (by decide +kernel), List.mem_of_getElem? (i := 810) (by decide +kernel), List.mem_of_getElem? (i := 811) (by decide +kernel)⟩
theorem lw_p22 : lw_okq (⟨"NobodySaidModel", "isPerson", "(I)Z"⟩, 21) := ⟨⟨by decide +kernel, by decide +kernel⟩, List.mem_of_getElem? (i := 694) (by decide +kernel), List.mem_of_getElem? (i := 821) (by decide +kernel), List.mem_of_getElem? (i := 822) (by decide +kernel)⟩
theorem lw_p23 : lw_okq (⟨"NobodySaidModel", "isSaid", "(III)I"⟩, 21) := ⟨⟨by decide +kernel, by decide +kernel⟩, List.mem_of_getElem? (i := 694) (by decide +kernel), List.mem_of_getElem? (i := 825) (by decide +kernel), List.mem_of_getElem? (i := 826) (by decide +kernel)⟩
theorem lw_p24 : lw_okq (⟨"NobodySaidModel", "isBegun", "(II)V"⟩, 21) := ⟨⟨by decide +kernel, by decide +kernel⟩, List.mem_of_getElem? (i := 694) (by decide +kernel), List.mem_of_getElem? (i := 832) (by decide +kernel), List.mem_of_getElem? (i := 833) (by decide +kernel)⟩
theorem lw_p25 : lw_okq (⟨"NobodySaidModel", "told", "(II)I"⟩, 21) := ⟨⟨by decide +kernel, by decide +kernel⟩, List.mem_of_getElem? (i := 694) (by decide +kernel), List.mem_of_getElem? (i := 840) (by decide +kernel), List.mem_of_getElem? (i := 841) (by decide +kernel)⟩
theorem lw_p26 : lw_okq (⟨"NobodySaidModel", "heardBy", "(I)I"⟩, 21) := ⟨⟨by decide +kernel, by decide +kernel⟩, List.mem_of_getElem? (i := 694) (by decide +kernel), List.mem_of_getElem? (i := 844) (by decide +kernel), List.mem_of_getElem? (i := 845) (by decide +kernel)⟩
theorem lw_p27 : lw_okq (⟨"NobodySaidModel", "hasHeard", "(II)Z"⟩, 21) := ⟨⟨by decide +kernel, by decide +kernel⟩, List.mem_of_getElem? (i := 694) (by decide +kernel), List.mem_of_getElem? (i := 848) (by decide +kernel), List.mem_of_getElem? (i := 849) (by decide +kernel)⟩
theorem lw_p28 : lw_okq (⟨"NobodySaidModel", "sayingIs", "(II)I"⟩, 21) := ⟨⟨by decide +kernel, by decide +kernel⟩, List.mem_of_getElem? (i := 694) (by decide +kernel), List.mem_of_getElem? (i := 852) (by decide +kernel), List.mem_of_getElem? (i := 853) (by decide +kernel)⟩
theorem lw_p29 : lw_okq (⟨"NobodySaidModel", "personIs", "(II)I"⟩, 21) := ⟨⟨by decide +kernel, by decide +kernel⟩, List.mem_of_getElem? (i := 694) (by decide +kernel), List.mem_of_getElem? (i := 856) (by decide +kernel), List.mem_of_getElem? (i := 857) (by decide +kernel)⟩
theorem lw_p30 : lw_okq (⟨"NobodySaidModel", "isSaying", "(I)Z"⟩, 21) := ⟨⟨by decide +kernel, by decide +kernel⟩, List.mem_of_getElem? (i := 694) (by decide +kernel), List.mem_of_getElem? (i := 871) (by decide +kernel), List.mem_of_getElem? (i := 872) (by decide +kernel)⟩
theorem lw_p31 : lw_okq (⟨"NobodySaidModel", "tracedFrom", "(II)I"⟩, 21) := ⟨⟨by decide +kernel, by decide +kernel⟩, List.mem_of_getElem? (i := 694) (by decide +kernel), List.mem_of_getElem? (i := 888) (by decide +kernel), List.mem_of_getElem? (i := 889) (by decide +kernel)⟩
def lw_privs_2 : List (MethodName × Nat) := [(⟨"NobodySaid$Reader", "isNumber", "(I)Z"⟩, 4), (⟨"NobodySaid$Reader", "readTalk", "()Z"⟩, 4), (⟨"NobodySaid$Reader", "readPerson", "(I)Z"⟩, 4), (⟨"NobodySaidModel", "become", "(II)I"⟩, 21), (⟨"NobodySaidModel", "finding", "(I)I"⟩, 21), (⟨"NobodySaidModel", "comes", "(II)I"⟩, 21), (⟨"NobodySaidModel", "isPerson", "(I)Z"⟩, 21), (⟨"NobodySaidModel", "isSaid", "(III)I"⟩, 21), (⟨"NobodySaidModel", "isBegun", "(II)V"⟩, 21), (⟨"NobodySaidModel", "told", "(II)I"⟩, 21), (⟨"NobodySaidModel", "heardBy", "(I)I"⟩, 21), (⟨"NobodySaidModel", "hasHeard", "(II)Z"⟩, 21), (⟨"NobodySaidModel", "sayingIs", "(II)I"⟩, 21), (⟨"NobodySaidModel", "personIs", "(II)I"⟩, 21), (⟨"NobodySaidModel", "isSaying", "(I)Z"⟩, 21), (⟨"NobodySaidModel", "tracedFrom", "(II)I"⟩, 21)]
theorem lw_r2 : ∀ q ∈ lw_privs_2, lw_okq q := List.forall_mem_cons.mpr ⟨lw_p16, List.forall_mem_cons.mpr ⟨lw_p17, List.forall_mem_cons.mpr ⟨lw_p18, List.forall_mem_cons.mpr ⟨lw_p19, List.forall_mem_cons.mpr ⟨lw_p20, List.forall_mem_cons.mpr ⟨lw_p21, List.forall_mem_cons.mpr ⟨lw_p22, List.forall_mem_cons.mpr ⟨lw_p23, List.forall_mem_cons.mpr ⟨lw_p24, List.forall_mem_cons.mpr ⟨lw_p25, List.forall_mem_cons.mpr ⟨lw_p26, List.forall_mem_cons.mpr ⟨lw_p27, List.forall_mem_cons.mpr ⟨lw_p28, List.forall_mem_cons.mpr ⟨lw_p29, List.forall_mem_cons.mpr ⟨lw_p30, List.forall_mem_cons.mpr ⟨lw_p31, fun _ h => absurd h List.not_mem_nil⟩⟩⟩⟩⟩⟩⟩⟩⟩⟩⟩⟩⟩⟩⟩⟩
theorem lw_p32 : lw_okq (⟨"NobodySaidModel", "mayTalk", "(II)Z"⟩, 21) := ⟨⟨by decide +kernel, by decide +kernel⟩, List.mem_of_getElem? (i := 694) (by decide +kernel), List.mem_of_getElem? (i := 896) (by decide +kernel), List.mem_of_getElem? (i := 897) (by decide +kernel)⟩
theorem lw_p33 : lw_okq (⟨"NobodySaidModel", "talks", "(II)I"⟩, 21) := ⟨⟨by decide +kernel, by decide +kernel⟩, List.mem_of_getElem? (i := 694) (by decide +kernel), List.mem_of_getElem? (i := 900) (by decide +kernel), List.mem_of_getElem? (i := 901) (by decide +kernel)⟩
theorem lw_p34 : lw_okq (⟨"NobodySaidModel", "tells", "(III)Z"⟩, 21) := ⟨⟨by decide +kernel, by decide +kernel⟩, List.mem_of_getElem? (i := 694) (by decide +kernel), List.mem_of_getElem? (i := 904) (by decide +kernel), List.mem_of_getElem? (i := 905) (by decide +kernel)⟩
theorem lw_p35 : lw_okq (⟨"NobodySaidModel", "believes", "(II)Z"⟩, 21) := ⟨⟨by decide +kernel, by decide +kernel⟩, List.mem_of_getElem? (i := 694) (by decide +kernel), List.mem_of_getElem? (i := 908) (by decide +kernel), List.mem_of_getElem? (i := 909) (by decide +kernel)⟩
theorem lw_p36 : lw_okq (⟨"NobodySaidModel", "names", "(II)I"⟩, 21) := ⟨⟨by decide +kernel, by decide +kernel⟩, List.mem_of_getElem? (i := 694) (by decide +kernel), List.mem_of_getElem? (i := 912) (by decide +kernel), List.mem_of_getElem? (i := 913) (by decide +kernel)⟩
theorem lw_p37 : lw_okq (⟨"NobodySaidModel", "daysGo", "(I)V"⟩, 21) := ⟨⟨by decide +kernel, by decide +kernel⟩, List.mem_of_getElem? (i := 694) (by decide +kernel), List.mem_of_getElem? (i := 922) (by decide +kernel), List.mem_of_getElem? (i := 923) (by decide +kernel)⟩
theorem lw_p38 : lw_okq (⟨"NobodySaidModel", "day", "()V"⟩, 21) := ⟨⟨by decide +kernel, by decide +kernel⟩, List.mem_of_getElem? (i := 694) (by decide +kernel), List.mem_of_getElem? (i := 926) (by decide +kernel), List.mem_of_getElem? (i := 927) (by decide +kernel)⟩
theorem lw_p39 : lw_okq (⟨"NobodySaidModel", "placeNow", "()I"⟩, 21) := ⟨⟨by decide +kernel, by decide +kernel⟩, List.mem_of_getElem? (i := 694) (by decide +kernel), List.mem_of_getElem? (i := 930) (by decide +kernel), List.mem_of_getElem? (i := 931) (by decide +kernel)⟩
theorem lw_p40 : lw_okq (⟨"NobodySaidModel", "trial", "(I)V"⟩, 21) := ⟨⟨by decide +kernel, by decide +kernel⟩, List.mem_of_getElem? (i := 694) (by decide +kernel), List.mem_of_getElem? (i := 934) (by decide +kernel), List.mem_of_getElem? (i := 935) (by decide +kernel)⟩
theorem lw_p41 : lw_okq (⟨"NobodySaidModel", "theNobody", "()I"⟩, 21) := ⟨⟨by decide +kernel, by decide +kernel⟩, List.mem_of_getElem? (i := 694) (by decide +kernel), List.mem_of_getElem? (i := 941) (by decide +kernel), List.mem_of_getElem? (i := 942) (by decide +kernel)⟩
theorem lw_p42 : lw_okq (⟨"NobodySaidModel", "more", "(III)V"⟩, 21) := ⟨⟨by decide +kernel, by decide +kernel⟩, List.mem_of_getElem? (i := 694) (by decide +kernel), List.mem_of_getElem? (i := 945) (by decide +kernel), List.mem_of_getElem? (i := 946) (by decide +kernel)⟩
theorem lw_p43 : lw_okq (⟨"NobodySaidModel", "pays", "(II)I"⟩, 21) := ⟨⟨by decide +kernel, by decide +kernel⟩, List.mem_of_getElem? (i := 694) (by decide +kernel), List.mem_of_getElem? (i := 950) (by decide +kernel), List.mem_of_getElem? (i := 951) (by decide +kernel)⟩
theorem lw_p44 : lw_okq (⟨"NobodySaidModel", "heardInAll", "()I"⟩, 21) := ⟨⟨by decide +kernel, by decide +kernel⟩, List.mem_of_getElem? (i := 694) (by decide +kernel), List.mem_of_getElem? (i := 958) (by decide +kernel), List.mem_of_getElem? (i := 959) (by decide +kernel)⟩
theorem lw_p45 : lw_okq (⟨"NobodySaidModel", "commonOnes", "()I"⟩, 21) := ⟨⟨by decide +kernel, by decide +kernel⟩, List.mem_of_getElem? (i := 694) (by decide +kernel), List.mem_of_getElem? (i := 965) (by decide +kernel), List.mem_of_getElem? (i := 966) (by decide +kernel)⟩
theorem lw_p46 : lw_okq (⟨"NobodySaidModel", "allHeard", "(I)Z"⟩, 21) := ⟨⟨by decide +kernel, by decide +kernel⟩, List.mem_of_getElem? (i := 694) (by decide +kernel), List.mem_of_getElem? (i := 969) (by decide +kernel), List.mem_of_getElem? (i := 970) (by decide +kernel)⟩
theorem lw_p47 : lw_okq (⟨"NobodySaidModel", "blamedInAll", "()I"⟩, 21) := ⟨⟨by decide +kernel, by decide +kernel⟩, List.mem_of_getElem? (i := 694) (by decide +kernel), List.mem_of_getElem? (i := 973) (by decide +kernel), List.mem_of_getElem? (i := 974) (by decide +kernel)⟩
def lw_privs_3 : List (MethodName × Nat) := [(⟨"NobodySaidModel", "mayTalk", "(II)Z"⟩, 21), (⟨"NobodySaidModel", "talks", "(II)I"⟩, 21), (⟨"NobodySaidModel", "tells", "(III)Z"⟩, 21), (⟨"NobodySaidModel", "believes", "(II)Z"⟩, 21), (⟨"NobodySaidModel", "names", "(II)I"⟩, 21), (⟨"NobodySaidModel", "daysGo", "(I)V"⟩, 21), (⟨"NobodySaidModel", "day", "()V"⟩, 21), (⟨"NobodySaidModel", "placeNow", "()I"⟩, 21), (⟨"NobodySaidModel", "trial", "(I)V"⟩, 21), (⟨"NobodySaidModel", "theNobody", "()I"⟩, 21), (⟨"NobodySaidModel", "more", "(III)V"⟩, 21), (⟨"NobodySaidModel", "pays", "(II)I"⟩, 21), (⟨"NobodySaidModel", "heardInAll", "()I"⟩, 21), (⟨"NobodySaidModel", "commonOnes", "()I"⟩, 21), (⟨"NobodySaidModel", "allHeard", "(I)Z"⟩, 21), (⟨"NobodySaidModel", "blamedInAll", "()I"⟩, 21)]
theorem lw_r3 : ∀ q ∈ lw_privs_3, lw_okq q := List.forall_mem_cons.mpr ⟨lw_p32, List.forall_mem_cons.mpr ⟨lw_p33, List.forall_mem_cons.mpr ⟨lw_p34, List.forall_mem_cons.mpr ⟨lw_p35, List.forall_mem_cons.mpr ⟨lw_p36, List.forall_mem_cons.mpr ⟨lw_p37, List.forall_mem_cons.mpr ⟨lw_p38, List.forall_mem_cons.mpr ⟨lw_p39, List.forall_mem_cons.mpr ⟨lw_p40, List.forall_mem_cons.mpr ⟨lw_p41, List.forall_mem_cons.mpr ⟨lw_p42, List.forall_mem_cons.mpr ⟨lw_p43, List.forall_mem_cons.mpr ⟨lw_p44, List.forall_mem_cons.mpr ⟨lw_p45, List.forall_mem_cons.mpr ⟨lw_p46, List.forall_mem_cons.mpr ⟨lw_p47, fun _ h => absurd h List.not_mem_nil⟩⟩⟩⟩⟩⟩⟩⟩⟩⟩⟩⟩⟩⟩⟩⟩
theorem lw_p48 : lw_okq (⟨"NobodySaidModel", "blamedMost", "()I"⟩, 21) := ⟨⟨by decide +kernel, by decide +kernel⟩, List.mem_of_getElem? (i := 694) (by decide +kernel), List.mem_of_getElem? (i := 977) (by decide +kernel), List.mem_of_getElem? (i := 978) (by decide +kernel)⟩
theorem lw_p49 : lw_okq (⟨"NobodySaidModel", "deafOnes", "()I"⟩, 21) := ⟨⟨by decide +kernel, by decide +kernel⟩, List.mem_of_getElem? (i := 694) (by decide +kernel), List.mem_of_getElem? (i := 981) (by decide +kernel), List.mem_of_getElem? (i := 982) (by decide +kernel)⟩
theorem lw_p50 : lw_okq (⟨"NobodySaidModel", "fromNobody", "()I"⟩, 21) := ⟨⟨by decide +kernel, by decide +kernel⟩, List.mem_of_getElem? (i := 694) (by decide +kernel), List.mem_of_getElem? (i := 985) (by decide +kernel), List.mem_of_getElem? (i := 986) (by decide +kernel)⟩
theorem lw_p51 : lw_okq (⟨"NobodySaidModel", "putBack", "(I)I"⟩, 21) := ⟨⟨by decide +kernel, by decide +kernel⟩, List.mem_of_getElem? (i := 694) (by decide +kernel), List.mem_of_getElem? (i := 996) (by decide +kernel), List.mem_of_getElem? (i := 997) (by decide +kernel)⟩
theorem lw_p52 : lw_okq (⟨"NobodySaidModel", "behind", "(II)I"⟩, 21) := ⟨⟨by decide +kernel, by decide +kernel⟩, List.mem_of_getElem? (i := 694) (by decide +kernel), List.mem_of_getElem? (i := 1004) (by decide +kernel), List.mem_of_getElem? (i := 1005) (by decide +kernel)⟩
theorem lw_p53 : lw_okq (⟨"NobodySaidModel", "orNone", "(I)I"⟩, 21) := ⟨⟨by decide +kernel, by decide +kernel⟩, List.mem_of_getElem? (i := 694) (by decide +kernel), List.mem_of_getElem? (i := 1012) (by decide +kernel), List.mem_of_getElem? (i := 1013) (by decide +kernel)⟩
theorem lw_p54 : lw_okq (⟨"NobodySaidModel", "daysTo", "(II)I"⟩, 21) := ⟨⟨by decide +kernel, by decide +kernel⟩, List.mem_of_getElem? (i := 694) (by decide +kernel), List.mem_of_getElem? (i := 1020) (by decide +kernel), List.mem_of_getElem? (i := 1021) (by decide +kernel)⟩
theorem lw_p55 : lw_okq (⟨"NobodySaidModel", "spreadBy", "(III)I"⟩, 21) := ⟨⟨by decide +kernel, by decide +kernel⟩, List.mem_of_getElem? (i := 694) (by decide +kernel), List.mem_of_getElem? (i := 1035) (by decide +kernel), List.mem_of_getElem? (i := 1036) (by decide +kernel)⟩
theorem lw_p56 : lw_okq (⟨"NobodySaidModel", "staysAway", "(IIII)Z"⟩, 21) := ⟨⟨by decide +kernel, by decide +kernel⟩, List.mem_of_getElem? (i := 694) (by decide +kernel), List.mem_of_getElem? (i := 1055) (by decide +kernel), List.mem_of_getElem? (i := 1056) (by decide +kernel)⟩
theorem lw_p57 : lw_okq (⟨"NobodySaidModel", "lacks", "(IZ)I"⟩, 21) := ⟨⟨by decide +kernel, by decide +kernel⟩, List.mem_of_getElem? (i := 694) (by decide +kernel), List.mem_of_getElem? (i := 1063) (by decide +kernel), List.mem_of_getElem? (i := 1064) (by decide +kernel)⟩
theorem lw_p58 : lw_okq (⟨"NobodySaidModel", "isSo", "(III)Z"⟩, 21) := ⟨⟨by decide +kernel, by decide +kernel⟩, List.mem_of_getElem? (i := 694) (by decide +kernel), List.mem_of_getElem? (i := 1071) (by decide +kernel), List.mem_of_getElem? (i := 1072) (by decide +kernel)⟩
theorem lw_p59 : lw_okq (⟨"NobodySaidModel", "drawn", "()I"⟩, 21) := ⟨⟨by decide +kernel, by decide +kernel⟩, List.mem_of_getElem? (i := 694) (by decide +kernel), List.mem_of_getElem? (i := 1083) (by decide +kernel), List.mem_of_getElem? (i := 1084) (by decide +kernel)⟩
theorem lw_p60 : lw_okq (⟨"NobodySaidModel", "token", "()V"⟩, 21) := ⟨⟨by decide +kernel, by decide +kernel⟩, List.mem_of_getElem? (i := 694) (by decide +kernel), List.mem_of_getElem? (i := 1108) (by decide +kernel), List.mem_of_getElem? (i := 1109) (by decide +kernel)⟩
theorem lw_p61 : lw_okq (⟨"NobodySaidModel", "byteAt", "(I)I"⟩, 21) := ⟨⟨by decide +kernel, by decide +kernel⟩, List.mem_of_getElem? (i := 694) (by decide +kernel), List.mem_of_getElem? (i := 1112) (by decide +kernel), List.mem_of_getElem? (i := 1113) (by decide +kernel)⟩
theorem lw_p62 : lw_okq (⟨"NobodySaidModel", "readItem", "()V"⟩, 21) := ⟨⟨by decide +kernel, by decide +kernel⟩, List.mem_of_getElem? (i := 694) (by decide +kernel), List.mem_of_getElem? (i := 1116) (by decide +kernel), List.mem_of_getElem? (i := 1117) (by decide +kernel)⟩
theorem lw_p63 : lw_okq (⟨"NobodySaidModel", "isWord", "(Ljava/lang/String;)Z"⟩, 21) := ⟨⟨by decide +kernel, by decide +kernel⟩, List.mem_of_getElem? (i := 694) (by decide +kernel), List.mem_of_getElem? (i := 1120) (by decide +kernel), List.mem_of_getElem? (i := 1121) (by decide +kernel)⟩
def lw_privs_4 : List (MethodName × Nat) := [(⟨"NobodySaidModel", "blamedMost", "()I"⟩, 21), (⟨"NobodySaidModel", "deafOnes", "()I"⟩, 21), (⟨"NobodySaidModel", "fromNobody", "()I"⟩, 21), (⟨"NobodySaidModel", "putBack", "(I)I"⟩, 21), (⟨"NobodySaidModel", "behind", "(II)I"⟩, 21), (⟨"NobodySaidModel", "orNone", "(I)I"⟩, 21), (⟨"NobodySaidModel", "daysTo", "(II)I"⟩, 21), (⟨"NobodySaidModel", "spreadBy", "(III)I"⟩, 21), (⟨"NobodySaidModel", "staysAway", "(IIII)Z"⟩, 21), (⟨"NobodySaidModel", "lacks", "(IZ)I"⟩, 21), (⟨"NobodySaidModel", "isSo", "(III)Z"⟩, 21), (⟨"NobodySaidModel", "drawn", "()I"⟩, 21), (⟨"NobodySaidModel", "token", "()V"⟩, 21), (⟨"NobodySaidModel", "byteAt", "(I)I"⟩, 21), (⟨"NobodySaidModel", "readItem", "()V"⟩, 21), (⟨"NobodySaidModel", "isWord", "(Ljava/lang/String;)Z"⟩, 21)]
theorem lw_r4 : ∀ q ∈ lw_privs_4, lw_okq q := List.forall_mem_cons.mpr ⟨lw_p48, List.forall_mem_cons.mpr ⟨lw_p49, List.forall_mem_cons.mpr ⟨lw_p50, List.forall_mem_cons.mpr ⟨lw_p51, List.forall_mem_cons.mpr ⟨lw_p52, List.forall_mem_cons.mpr ⟨lw_p53, List.forall_mem_cons.mpr ⟨lw_p54, List.forall_mem_cons.mpr ⟨lw_p55, List.forall_mem_cons.mpr ⟨lw_p56, List.forall_mem_cons.mpr ⟨lw_p57, List.forall_mem_cons.mpr ⟨lw_p58, List.forall_mem_cons.mpr ⟨lw_p59, List.forall_mem_cons.mpr ⟨lw_p60, List.forall_mem_cons.mpr ⟨lw_p61, List.forall_mem_cons.mpr ⟨lw_p62, List.forall_mem_cons.mpr ⟨lw_p63, fun _ h => absurd h List.not_mem_nil⟩⟩⟩⟩⟩⟩⟩⟩⟩⟩⟩⟩⟩⟩⟩⟩
theorem lw_p64 : lw_okq (⟨"NobodySaidModel", "readPerson", "(I)V"⟩, 21) := ⟨⟨by decide +kernel, by decide +kernel⟩, List.mem_of_getElem? (i := 694) (by decide +kernel), List.mem_of_getElem? (i := 1126) (by decide +kernel), List.mem_of_getElem? (i := 1127) (by decide +kernel)⟩
theorem lw_p65 : lw_okq (⟨"NobodySaidModel", "must", "(Z)V"⟩, 21) := ⟨⟨by decide +kernel, by decide +kernel⟩, List.mem_of_getElem? (i := 694) (by decide +kernel), List.mem_of_getElem? (i := 1130) (by decide +kernel), List.mem_of_getElem? (i := 1131) (by decide +kernel)⟩
theorem lw_p66 : lw_okq (⟨"NobodySaidModel", "takesWord", "(Ljava/lang/String;)Z"⟩, 21) := ⟨⟨by decide +kernel, by decide +kernel⟩, List.mem_of_getElem? (i := 694) (by decide +kernel), List.mem_of_getElem? (i := 1135) (by decide +kernel), List.mem_of_getElem? (i := 1136) (by decide +kernel)⟩
theorem lw_p67 : lw_okq (⟨"NobodySaidModel", "number", "(II)I"⟩, 21) := ⟨⟨by decide +kernel, by decide +kernel⟩, List.mem_of_getElem? (i := 694) (by decide +kernel), List.mem_of_getElem? (i := 1139) (by decide +kernel), List.mem_of_getElem? (i := 1140) (by decide +kernel)⟩
theorem lw_p68 : lw_okq (⟨"NobodySaidModel", "addItem", "(IIII)V"⟩, 21) := ⟨⟨by decide +kernel, by decide +kernel⟩, List.mem_of_getElem? (i := 694) (by decide +kernel), List.mem_of_getElem? (i := 1144) (by decide +kernel), List.mem_of_getElem? (i := 1145) (by decide +kernel)⟩
theorem lw_p69 : lw_okq (⟨"NobodySaidModel", "readSaying", "()V"⟩, 21) := ⟨⟨by decide +kernel, by decide +kernel⟩, List.mem_of_getElem? (i := 694) (by decide +kernel), List.mem_of_getElem? (i := 1149) (by decide +kernel), List.mem_of_getElem? (i := 1150) (by decide +kernel)⟩
theorem lw_p70 : lw_okq (⟨"NobodySaidModel", "isToldSo", "(I)V"⟩, 21) := ⟨⟨by decide +kernel, by decide +kernel⟩, List.mem_of_getElem? (i := 694) (by decide +kernel), List.mem_of_getElem? (i := 1154) (by decide +kernel), List.mem_of_getElem? (i := 1155) (by decide +kernel)⟩
def lw_privs_5 : List (MethodName × Nat) := [(⟨"NobodySaidModel", "readPerson", "(I)V"⟩, 21), (⟨"NobodySaidModel", "must", "(Z)V"⟩, 21), (⟨"NobodySaidModel", "takesWord", "(Ljava/lang/String;)Z"⟩, 21), (⟨"NobodySaidModel", "number", "(II)I"⟩, 21), (⟨"NobodySaidModel", "addItem", "(IIII)V"⟩, 21), (⟨"NobodySaidModel", "readSaying", "()V"⟩, 21), (⟨"NobodySaidModel", "isToldSo", "(I)V"⟩, 21)]
theorem lw_r5 : ∀ q ∈ lw_privs_5, lw_okq q := List.forall_mem_cons.mpr ⟨lw_p64, List.forall_mem_cons.mpr ⟨lw_p65, List.forall_mem_cons.mpr ⟨lw_p66, List.forall_mem_cons.mpr ⟨lw_p67, List.forall_mem_cons.mpr ⟨lw_p68, List.forall_mem_cons.mpr ⟨lw_p69, List.forall_mem_cons.mpr ⟨lw_p70, fun _ h => absurd h List.not_mem_nil⟩⟩⟩⟩⟩⟩⟩
def lw_privs : List (MethodName × Nat) := lw_privs_1 ++ (lw_privs_2 ++ (lw_privs_3 ++ (lw_privs_4 ++ (lw_privs_5))))
def lw_tbl : List Cond := k2_sels lw_privs ++ tables_1
theorem lw_privs_ok : ∀ q ∈ lw_privs, lw_okq q := by
  show ∀ q ∈ lw_privs_1 ++ (lw_privs_2 ++ (lw_privs_3 ++ (lw_privs_4 ++ (lw_privs_5)))), lw_okq q
  exact List.forall_mem_append.mpr ⟨lw_r1, List.forall_mem_append.mpr ⟨lw_r2, List.forall_mem_append.mpr ⟨lw_r3, List.forall_mem_append.mpr ⟨lw_r4, lw_r5⟩⟩⟩⟩
end
section
abbrev sg_M : Type := String × ByteArray × Nat × Option FieldType
def RX0 : String := "NobodySaid$Reader"
def TX0 : u_T := fun k => match k with
  | 0 => ("NobodySaid$Reader", "tape", "LNobodySaid$Tape;", true)
  | 1 => ("NobodySaid$Reader", "town", "LNobodySaid$Town;", true)
  | 2 => ("NobodySaid$Reader", "told", "[I", true)
  | _ => ("NobodySaid$Reader", "at", "I", false)
def tyX0 : Nat → FieldType := fun k => match k with
  | 0 => .object "NobodySaid$Tape"
  | 1 => .object "NobodySaid$Town"
  | 2 => .array .int
  | _ => .int
abbrev wsX00 : List Cond := u_ws RX0 TX0 4
theorem nmX0 : ∀ a, a < 4 → ∀ b, b < 4 → a ≠ b → (TX0 a).2.1 ≠ (TX0 b).2.1 := by decide +kernel
theorem tyX0_ok : ∀ k, k < 4 → parseFieldDescriptor (TX0 k).2.2.1 = some (tyX0 k) := by decide +kernel
def yX0_init : MethodName := ⟨RX0, "<init>", "()V"⟩
def mX0_init : sg_M := (RX0, prog_2_method_1_code, 1, none)
def yX0_readTape : MethodName := ⟨RX0, "readTape", "()I"⟩
def mX0_readTape : sg_M := (RX0, prog_2_method_2_code, 2, (some .int))
def yX0_step : MethodName := ⟨RX0, "step", "()V"⟩
def mX0_step : sg_M := (RX0, prog_2_method_3_code, 1, none)
def yX0_isWord : MethodName := ⟨RX0, "isWord", "(I)Z"⟩
def mX0_isWord : sg_M := (RX0, prog_2_method_4_code, 2, (some .boolean))
def yX0_isNumber : MethodName := ⟨RX0, "isNumber", "(I)Z"⟩
def mX0_isNumber : sg_M := (RX0, prog_2_method_5_code, 2, (some .boolean))
def yX0_readItem : MethodName := ⟨RX0, "readItem", "()Z"⟩
def mX0_readItem : sg_M := (RX0, prog_2_method_6_code, 2, (some .boolean))
def yX0_readPerson : MethodName := ⟨RX0, "readPerson", "(I)Z"⟩
def mX0_readPerson : sg_M := (RX0, prog_2_method_7_code, 4, (some .boolean))
def yX0_readSaying : MethodName := ⟨RX0, "readSaying", "()Z"⟩
def mX0_readSaying : sg_M := (RX0, prog_2_method_8_code, 1, (some .boolean))
def yX0_readTalk : MethodName := ⟨RX0, "readTalk", "()Z"⟩
def mX0_readTalk : sg_M := (RX0, prog_2_method_9_code, 1, (some .boolean))
def yX0_readNumbers : MethodName := ⟨RX0, "readNumbers", "(III)Z"⟩
def mX0_readNumbers : sg_M := (RX0, prog_2_method_10_code, 6, (some .boolean))
def RX1 : String := "NobodySaid$Sheet"
def TX1 : u_T := fun k => match k with
  | 0 => ("NobodySaid$Sheet", "numbers", "[I", true)
  | 1 => ("NobodySaid$Sheet", "bits", "I", false)
  | _ => ("NobodySaid$Sheet", "size", "I", false)
def tyX1 : Nat → FieldType := fun k => match k with
  | 0 => .array .int
  | 1 => .int
  | _ => .int
abbrev wsX10 : List Cond := u_ws RX1 TX1 3
theorem nmX1 : ∀ a, a < 3 → ∀ b, b < 3 → a ≠ b → (TX1 a).2.1 ≠ (TX1 b).2.1 := by decide +kernel
theorem tyX1_ok : ∀ k, k < 3 → parseFieldDescriptor (TX1 k).2.2.1 = some (tyX1 k) := by decide +kernel
def yX1_init : MethodName := ⟨RX1, "<init>", "()V"⟩
def mX1_init : sg_M := (RX1, prog_3_method_1_code, 1, none)
def yX1_renew : MethodName := ⟨RX1, "renew", "(II)V"⟩
def mX1_renew : sg_M := (RX1, prog_3_method_2_code, 3, none)
def yX1_put : MethodName := ⟨RX1, "put", "(II)V"⟩
def mX1_put : sg_M := (RX1, prog_3_method_3_code, 3, none)
def yX1_has : MethodName := ⟨RX1, "has", "(II)Z"⟩
def mX1_has : sg_M := (RX1, prog_3_method_4_code, 3, (some .boolean))
def yX1_allows : MethodName := ⟨RX1, "allows", "(II)Z"⟩
def mX1_allows : sg_M := (RX1, prog_3_method_5_code, 3, (some .boolean))
def RX2 : String := "NobodySaid$Tape"
def TX2 : u_T := fun k => match k with
  | 0 => ("NobodySaid$Tape", "bytes", "[I", true)
  | 1 => ("NobodySaid$Tape", "size", "I", false)
  | 2 => ("NobodySaid$Tape", "tokens", "[I", true)
  | 3 => ("NobodySaid$Tape", "starts", "[I", true)
  | _ => ("NobodySaid$Tape", "values", "[I", true)
def tyX2 : Nat → FieldType := fun k => match k with
  | 0 => .array .int
  | 1 => .int
  | 2 => .array .int
  | 3 => .array .int
  | _ => .array .int
abbrev wsX20 : List Cond := u_ws RX2 TX2 5
theorem nmX2 : ∀ a, a < 5 → ∀ b, b < 5 → a ≠ b → (TX2 a).2.1 ≠ (TX2 b).2.1 := by decide +kernel
theorem tyX2_ok : ∀ k, k < 5 → parseFieldDescriptor (TX2 k).2.2.1 = some (tyX2 k) := by decide +kernel
def yX2_init : MethodName := ⟨RX2, "<init>", "()V"⟩
def mX2_init : sg_M := (RX2, prog_4_method_1_code, 1, none)
def yX2_append : MethodName := ⟨RX2, "append", "(I)V"⟩
def mX2_append : sg_M := (RX2, prog_4_method_2_code, 2, none)
def yX2_cut : MethodName := ⟨RX2, "cut", "()V"⟩
def mX2_cut : sg_M := (RX2, prog_4_method_3_code, 3, none)
def yX2_goesOn : MethodName := ⟨RX2, "goesOn", "(I)Z"⟩
def mX2_goesOn : sg_M := (RX2, prog_4_method_4_code, 2, (some .boolean))
def yX2_tokenEnd : MethodName := ⟨RX2, "tokenEnd", "(I)I"⟩
def mX2_tokenEnd : sg_M := (RX2, prog_4_method_5_code, 3, (some .int))
def yX2_keepToken : MethodName := ⟨RX2, "keepToken", "(III)V"⟩
def mX2_keepToken : sg_M := (RX2, prog_4_method_6_code, 4, none)
def yX2_worth : MethodName := ⟨RX2, "worth", "(II)I"⟩
def mX2_worth : sg_M := (RX2, prog_4_method_7_code, 5, (some .int))
def yX2_wordNumber : MethodName := ⟨RX2, "wordNumber", "(II)I"⟩
def mX2_wordNumber : sg_M := (RX2, prog_4_method_8_code, 6, (some .int))
def yX2_isAlike : MethodName := ⟨RX2, "isAlike", "(III)Z"⟩
def mX2_isAlike : sg_M := (RX2, prog_4_method_9_code, 5, (some .boolean))
def yX2_isLetter : MethodName := ⟨RX2, "isLetter", "(I)Z"⟩
def mX2_isLetter : sg_M := (RX2, prog_4_method_10_code, 1, (some .boolean))
def yX2_isDigit : MethodName := ⟨RX2, "isDigit", "(I)Z"⟩
def mX2_isDigit : sg_M := (RX2, prog_4_method_11_code, 1, (some .boolean))
def RX3 : String := "NobodySaid$Town"
def TX3 : u_T := fun k => match k with
  | 0 => ("NobodySaid$Town", "list", "[I", true)
  | 1 => ("NobodySaid$Town", "kind", "[I", true)
  | 2 => ("NobodySaid$Town", "trust", "[I", true)
  | 3 => ("NobodySaid$Town", "quiet", "[I", true)
  | 4 => ("NobodySaid$Town", "blamed", "[I", true)
  | 5 => ("NobodySaid$Town", "about", "[I", true)
  | 6 => ("NobodySaid$Town", "weight", "[I", true)
  | 7 => ("NobodySaid$Town", "heard", "[I", true)
  | 8 => ("NobodySaid$Town", "sources", "[I", true)
  | 9 => ("NobodySaid$Town", "spots", "[I", true)
  | 10 => ("NobodySaid$Town", "people", "I", false)
  | 11 => ("NobodySaid$Town", "sayings", "I", false)
  | 12 => ("NobodySaid$Town", "fund", "I", false)
  | 13 => ("NobodySaid$Town", "day", "I", false)
  | _ => ("NobodySaid$Town", "z", "I", false)
def tyX3 : Nat → FieldType := fun k => match k with
  | 0 => .array .int
  | 1 => .array .int
  | 2 => .array .int
  | 3 => .array .int
  | 4 => .array .int
  | 5 => .array .int
  | 6 => .array .int
  | 7 => .array .int
  | 8 => .array .int
  | 9 => .array .int
  | 10 => .int
  | 11 => .int
  | 12 => .int
  | 13 => .int
  | _ => .int
abbrev wsX30 : List Cond := u_ws RX3 TX3 15
theorem nmX3 : ∀ a, a < 15 → ∀ b, b < 15 → a ≠ b → (TX3 a).2.1 ≠ (TX3 b).2.1 := by decide +kernel
theorem tyX3_ok : ∀ k, k < 15 → parseFieldDescriptor (TX3 k).2.2.1 = some (tyX3 k) := by decide +kernel
def yX3_init : MethodName := ⟨RX3, "<init>", "()V"⟩
def mX3_init : sg_M := (RX3, prog_5_method_1_code, 1, none)
def yX3_become : MethodName := ⟨RX3, "become", "(LNobodySaid$Town;)V"⟩
def mX3_become : sg_M := (RX3, prog_5_method_2_code, 2, none)
def yX3_isPerson : MethodName := ⟨RX3, "isPerson", "(I)Z"⟩
def mX3_isPerson : sg_M := (RX3, prog_5_method_3_code, 2, (some .boolean))
def yX3_isSaying : MethodName := ⟨RX3, "isSaying", "(I)Z"⟩
def mX3_isSaying : sg_M := (RX3, prog_5_method_4_code, 2, (some .boolean))
def yX3_settle : MethodName := ⟨RX3, "settle", "(III)I"⟩
def mX3_settle : sg_M := (RX3, prog_5_method_5_code, 5, (some .int))
def yX3_putAbout : MethodName := ⟨RX3, "putAbout", "(III)I"⟩
def mX3_putAbout : sg_M := (RX3, prog_5_method_6_code, 5, (some .int))
def yX3_begin : MethodName := ⟨RX3, "begin", "(II)V"⟩
def mX3_begin : sg_M := (RX3, prog_5_method_7_code, 3, none)
def yX3_hasHeard : MethodName := ⟨RX3, "hasHeard", "(II)Z"⟩
def mX3_hasHeard : sg_M := (RX3, prog_5_method_8_code, 3, (some .boolean))
def yX3_source : MethodName := ⟨RX3, "source", "(II)I"⟩
def mX3_source : sg_M := (RX3, prog_5_method_9_code, 3, (some .int))
def yX3_everybody : MethodName := ⟨RX3, "everybody", "()I"⟩
def mX3_everybody : sg_M := (RX3, prog_5_method_10_code, 1, (some .int))
def yX3_silence : MethodName := ⟨RX3, "silence", "(I)V"⟩
def mX3_silence : sg_M := (RX3, prog_5_method_11_code, 3, none)
def yX3_listToday : MethodName := ⟨RX3, "listToday", "(II)V"⟩
def mX3_listToday : sg_M := (RX3, prog_5_method_12_code, 3, none)
def yX3_wouldTell : MethodName := ⟨RX3, "wouldTell", "(III)Z"⟩
def mX3_wouldTell : sg_M := (RX3, prog_5_method_13_code, 4, (some .boolean))
def yX3_wouldBelieve : MethodName := ⟨RX3, "wouldBelieve", "(III)Z"⟩
def mX3_wouldBelieve : sg_M := (RX3, prog_5_method_14_code, 5, (some .boolean))
def yX3_whomNames : MethodName := ⟨RX3, "whomNames", "(II)I"⟩
def mX3_whomNames : sg_M := (RX3, prog_5_method_15_code, 3, (some .int))
def yX3_payment : MethodName := ⟨RX3, "payment", "(II)I"⟩
def mX3_payment : sg_M := (RX3, prog_5_method_16_code, 3, (some .int))
def yX3_passOn : MethodName := ⟨RX3, "passOn", "(II)I"⟩
def mX3_passOn : sg_M := (RX3, prog_5_method_17_code, 5, (some .int))
def yX3_trace : MethodName := ⟨RX3, "trace", "(II)I"⟩
def mX3_trace : sg_M := (RX3, prog_5_method_18_code, 6, (some .int))
def yX3_passDays : MethodName := ⟨RX3, "passDays", "(I)V"⟩
def mX3_passDays : sg_M := (RX3, prog_5_method_19_code, 3, none)
def yX3_passDay : MethodName := ⟨RX3, "passDay", "()V"⟩
def mX3_passDay : sg_M := (RX3, prog_5_method_20_code, 4, none)
def yX3_holdTrial : MethodName := ⟨RX3, "holdTrial", "(I)V"⟩
def mX3_holdTrial : sg_M := (RX3, prog_5_method_21_code, 3, none)
def yX3_lastHearer : MethodName := ⟨RX3, "lastHearer", "(I)I"⟩
def mX3_lastHearer : sg_M := (RX3, prog_5_method_22_code, 3, (some .int))
def yX3_mrNobody : MethodName := ⟨RX3, "mrNobody", "()I"⟩
def mX3_mrNobody : sg_M := (RX3, prog_5_method_23_code, 2, (some .int))
def yX3_heardBy : MethodName := ⟨RX3, "heardBy", "(I)I"⟩
def mX3_heardBy : sg_M := (RX3, prog_5_method_24_code, 4, (some .int))
def yX3_hearings : MethodName := ⟨RX3, "hearings", "()I"⟩
def mX3_hearings : sg_M := (RX3, prog_5_method_25_code, 3, (some .int))
def yX3_knownToAll : MethodName := ⟨RX3, "knownToAll", "()I"⟩
def mX3_knownToAll : sg_M := (RX3, prog_5_method_26_code, 3, (some .int))
def yX3_blames : MethodName := ⟨RX3, "blames", "()I"⟩
def mX3_blames : sg_M := (RX3, prog_5_method_27_code, 3, (some .int))
def yX3_mostBlamed : MethodName := ⟨RX3, "mostBlamed", "()I"⟩
def mX3_mostBlamed : sg_M := (RX3, prog_5_method_28_code, 4, (some .int))
def yX3_innocent : MethodName := ⟨RX3, "innocent", "()I"⟩
def mX3_innocent : sg_M := (RX3, prog_5_method_29_code, 3, (some .int))
def yX3_untraceable : MethodName := ⟨RX3, "untraceable", "()I"⟩
def mX3_untraceable : sg_M := (RX3, prog_5_method_30_code, 3, (some .int))
def yX3_draw : MethodName := ⟨RX3, "draw", "()I"⟩
def mX3_draw : sg_M := (RX3, prog_5_method_31_code, 1, (some .int))
def yX3_spotsHeld : MethodName := ⟨RX3, "spotsHeld", "()I"⟩
def mX3_spotsHeld : sg_M := (RX3, prog_5_method_32_code, 3, (some .int))
def RX4 : String := "NobodySaid"
def TX4 : u_T := fun k => match k with
  | 0 => ("NobodySaid", "town", "LNobodySaid$Town;", true)
  | 1 => ("NobodySaid", "guess", "LNobodySaid$Town;", true)
  | 2 => ("NobodySaid", "kept", "LNobodySaid$Town;", true)
  | 3 => ("NobodySaid", "keeps", "Z", false)
  | 4 => ("NobodySaid", "reader", "LNobodySaid$Reader;", true)
  | 5 => ("NobodySaid", "sheets", "[LNobodySaid$Sheet;", true)
  | _ => ("NobodySaid", "found", "[I", true)
def tyX4 : Nat → FieldType := fun k => match k with
  | 0 => .object "NobodySaid$Town"
  | 1 => .object "NobodySaid$Town"
  | 2 => .object "NobodySaid$Town"
  | 3 => .boolean
  | 4 => .object "NobodySaid$Reader"
  | 5 => .array (.object "NobodySaid$Sheet")
  | _ => .array .int
abbrev wsX40 : List Cond := u_ws RX4 TX4 7
theorem nmX4 : ∀ a, a < 7 → ∀ b, b < 7 → a ≠ b → (TX4 a).2.1 ≠ (TX4 b).2.1 := by decide +kernel
theorem tyX4_ok : ∀ k, k < 7 → parseFieldDescriptor (TX4 k).2.2.1 = some (tyX4 k) := by decide +kernel
def yX4_init : MethodName := ⟨RX4, "<init>", "()V"⟩
def mX4_init : sg_M := (RX4, prog_1_method_1_code, 2, none)
def yX4_list : MethodName := ⟨RX4, "list", "(III)I"⟩
def mX4_list : sg_M := (RX4, prog_1_method_2_code, 5, (some .int))
def yX4_listed : MethodName := ⟨RX4, "listed", "(I)I"⟩
def mX4_listed : sg_M := (RX4, prog_1_method_3_code, 2, (some .int))
def yX4_person : MethodName := ⟨RX4, "person", "(II)I"⟩
def mX4_person : sg_M := (RX4, prog_1_method_4_code, 3, (some .int))
def yX4_saying : MethodName := ⟨RX4, "saying", "(III)I"⟩
def mX4_saying : sg_M := (RX4, prog_1_method_5_code, 4, (some .int))
def yX4_of : MethodName := ⟨RX4, "of", "(II)I"⟩
def mX4_of : sg_M := (RX4, prog_1_method_6_code, 3, (some .int))
def yX4_change : MethodName := ⟨RX4, "change", "(III)I"⟩
def mX4_change : sg_M := (RX4, prog_1_method_7_code, 4, (some .int))
def yX4_ofSaying : MethodName := ⟨RX4, "ofSaying", "(II)I"⟩
def mX4_ofSaying : sg_M := (RX4, prog_1_method_8_code, 3, (some .int))
def yX4_alter : MethodName := ⟨RX4, "alter", "(III)I"⟩
def mX4_alter : sg_M := (RX4, prog_1_method_9_code, 4, (some .int))
def yX4_from : MethodName := ⟨RX4, "from", "(II)I"⟩
def mX4_from : sg_M := (RX4, prog_1_method_10_code, 3, (some .int))
def yX4_traced : MethodName := ⟨RX4, "traced", "(II)I"⟩
def mX4_traced : sg_M := (RX4, prog_1_method_11_code, 3, (some .int))
def yX4_talk : MethodName := ⟨RX4, "talk", "(II)I"⟩
def mX4_talk : sg_M := (RX4, prog_1_method_12_code, 3, (some .int))
def yX4_go : MethodName := ⟨RX4, "go", "(I)I"⟩
def mX4_go : sg_M := (RX4, prog_1_method_13_code, 2, (some .int))
def yX4_now : MethodName := ⟨RX4, "now", "(I)I"⟩
def mX4_now : sg_M := (RX4, prog_1_method_14_code, 2, (some .int))
def yX4_ahead : MethodName := ⟨RX4, "ahead", "(III)I"⟩
def mX4_ahead : sg_M := (RX4, prog_1_method_15_code, 4, (some .int))
def yX4_spread : MethodName := ⟨RX4, "spread", "(II)I"⟩
def mX4_spread : sg_M := (RX4, prog_1_method_16_code, 3, (some .int))
def yX4_when : MethodName := ⟨RX4, "when", "(II)I"⟩
def mX4_when : sg_M := (RX4, prog_1_method_17_code, 4, (some .int))
def yX4_blamed : MethodName := ⟨RX4, "blamed", "(II)I"⟩
def mX4_blamed : sg_M := (RX4, prog_1_method_18_code, 4, (some .int))
def yX4_fund : MethodName := ⟨RX4, "fund", "(I)I"⟩
def mX4_fund : sg_M := (RX4, prog_1_method_19_code, 3, (some .int))
def yX4_beginner : MethodName := ⟨RX4, "beginner", "(II)I"⟩
def mX4_beginner : sg_M := (RX4, prog_1_method_20_code, 7, (some .int))
def yX4_kindFor : MethodName := ⟨RX4, "kindFor", "(II)I"⟩
def mX4_kindFor : sg_M := (RX4, prog_1_method_21_code, 6, (some .int))
def yX4_trustFor : MethodName := ⟨RX4, "trustFor", "(III)I"⟩
def mX4_trustFor : sg_M := (RX4, prog_1_method_22_code, 5, (some .int))
def yX4_weightFor : MethodName := ⟨RX4, "weightFor", "(II)I"⟩
def mX4_weightFor : sg_M := (RX4, prog_1_method_23_code, 4, (some .int))
def yX4_hush : MethodName := ⟨RX4, "hush", "(III)I"⟩
def mX4_hush : sg_M := (RX4, prog_1_method_24_code, 6, (some .int))
def yX4_keepsFrom : MethodName := ⟨RX4, "keepsFrom", "(IIII)Z"⟩
def mX4_keepsFrom : sg_M := (RX4, prog_1_method_25_code, 5, (some .boolean))
def yX4_fits : MethodName := ⟨RX4, "fits", "(II)I"⟩
def mX4_fits : sg_M := (RX4, prog_1_method_26_code, 6, (some .int))
def yX4_hearersAreAsTold : MethodName := ⟨RX4, "hearersAreAsTold", "(LNobodySaid$Sheet;I)Z"⟩
def mX4_hearersAreAsTold : sg_M := (RX4, prog_1_method_27_code, 4, (some .boolean))
def yX4_kinds : MethodName := ⟨RX4, "kinds", "(II)I"⟩
def mX4_kinds : sg_M := (RX4, prog_1_method_28_code, 5, (some .int))
def yX4_sayingsAreAsTold : MethodName := ⟨RX4, "sayingsAreAsTold", "(LNobodySaid$Sheet;I)Z"⟩
def mX4_sayingsAreAsTold : sg_M := (RX4, prog_1_method_29_code, 4, (some .boolean))
def yX4_evening : MethodName := ⟨RX4, "evening", "(I)I"⟩
def mX4_evening : sg_M := (RX4, prog_1_method_30_code, 5, (some .int))
def yX4_odds : MethodName := ⟨RX4, "odds", "(IIII)J"⟩
def mX4_odds : sg_M := (RX4, prog_1_method_31_code, 7, (some .long))
def yX4_inLowestTerms : MethodName := ⟨RX4, "inLowestTerms", "(III)I"⟩
def mX4_inLowestTerms : sg_M := (RX4, prog_1_method_32_code, 5, (some .int))
def yX4_power : MethodName := ⟨RX4, "power", "(II)J"⟩
def mX4_power : sg_M := (RX4, prog_1_method_33_code, 5, (some .long))
def yX4_seed : MethodName := ⟨RX4, "seed", "(I)I"⟩
def mX4_seed : sg_M := (RX4, prog_1_method_34_code, 3, (some .int))
def yX4_feed : MethodName := ⟨RX4, "feed", "(II)I"⟩
def mX4_feed : sg_M := (RX4, prog_1_method_35_code, 4, (some .int))
def yX4_wipe : MethodName := ⟨RX4, "wipe", "()I"⟩
def mX4_wipe : sg_M := (RX4, prog_1_method_36_code, 2, (some .int))
def yX4_text : MethodName := ⟨RX4, "text", "()I"⟩
def mX4_text : sg_M := (RX4, prog_1_method_37_code, 2, (some .int))
def yX4_hold : MethodName := ⟨RX4, "hold", "(II)I"⟩
def mX4_hold : sg_M := (RX4, prog_1_method_38_code, 3, (some .int))
def yX4_as : MethodName := ⟨RX4, "as", "(II)I"⟩
def mX4_as : sg_M := (RX4, prog_1_method_39_code, 4, (some .int))
def yX4_isUnder : MethodName := ⟨RX4, "isUnder", "(II)Z"⟩
def mX4_isUnder : sg_M := (RX4, prog_1_method_40_code, 4, (some .boolean))
def yX4_kindAbove : MethodName := ⟨RX4, "kindAbove", "(I)I"⟩
def mX4_kindAbove : sg_M := (RX4, prog_1_method_41_code, 1, (some .int))
def yX4_sheet : MethodName := ⟨RX4, "sheet", "(III)I"⟩
def mX4_sheet : sg_M := (RX4, prog_1_method_42_code, 4, (some .int))
def yX4_write : MethodName := ⟨RX4, "write", "(III)I"⟩
def mX4_write : sg_M := (RX4, prog_1_method_43_code, 4, (some .int))
def yX4_copy : MethodName := ⟨RX4, "copy", "(IIIII)I"⟩
def mX4_copy : sg_M := (RX4, prog_1_method_44_code, 6, (some .int))
def yX4_load : MethodName := ⟨RX4, "load", "(I)I"⟩
def mX4_load : sg_M := (RX4, prog_1_method_45_code, 4, (some .int))
def yX4_judge : MethodName := ⟨RX4, "judge", "(I)I"⟩
def mX4_judge : sg_M := (RX4, prog_1_method_46_code, 3, (some .int))
def yX4_image : MethodName := ⟨RX4, "image", "()I"⟩
def mX4_image : sg_M := (RX4, prog_1_method_47_code, 1, (some .int))
def yX4_undo : MethodName := ⟨RX4, "undo", "()I"⟩
def mX4_undo : sg_M := (RX4, prog_1_method_48_code, 1, (some .int))
def yX4_tear : MethodName := ⟨RX4, "tear", "()I"⟩
def mX4_tear : sg_M := (RX4, prog_1_method_49_code, 2, (some .int))
def yX4_count : MethodName := ⟨RX4, "count", "(I)I"⟩
def mX4_count : sg_M := (RX4, prog_1_method_50_code, 2, (some .int))
def yX4_status : MethodName := ⟨RX4, "status", "(I)I"⟩
def mX4_status : sg_M := (RX4, prog_1_method_51_code, 4, (some .int))
def yX4_finding : MethodName := ⟨RX4, "finding", "(I)I"⟩
def mX4_finding : sg_M := (RX4, prog_1_method_52_code, 2, (some .int))
def yX4_within : MethodName := ⟨RX4, "within", "(II)Z"⟩
def mX4_within : sg_M := (RX4, prog_1_method_53_code, 2, (some .boolean))
def yX4_exchange : MethodName := ⟨RX4, "exchange", "([IIII)I"⟩
def mX4_exchange : sg_M := (RX4, prog_1_method_54_code, 6, (some .int))
def RX5 : String := "NobodySaidModel"
def TX5 : u_T := fun k => match k with
  | 0 => ("NobodySaidModel", "now", "[I", true)
  | 1 => ("NobodySaidModel", "kept", "[I", true)
  | 2 => ("NobodySaidModel", "aside", "[I", true)
  | 3 => ("NobodySaidModel", "isKept", "Z", false)
  | 4 => ("NobodySaidModel", "found", "[I", true)
  | 5 => ("NobodySaidModel", "tape", "[I", true)
  | 6 => ("NobodySaidModel", "taped", "I", false)
  | 7 => ("NobodySaidModel", "begins", "I", false)
  | 8 => ("NobodySaidModel", "ends", "I", false)
  | 9 => ("NobodySaidModel", "sort", "I", false)
  | 10 => ("NobodySaidModel", "value", "I", false)
  | 11 => ("NobodySaidModel", "isWrong", "Z", false)
  | 12 => ("NobodySaidModel", "kindNames", "[Ljava/lang/String;", true)
  | 13 => ("NobodySaidModel", "items", "[I", true)
  | 14 => ("NobodySaidModel", "itemMany", "I", false)
  | 15 => ("NobodySaidModel", "peopleThen", "I", false)
  | 16 => ("NobodySaidModel", "sayingsThen", "I", false)
  | 17 => ("NobodySaidModel", "widths", "[I", true)
  | 18 => ("NobodySaidModel", "sizes", "[I", true)
  | 19 => ("NobodySaidModel", "numbers", "[I", true)
  | _ => ("NobodySaidModel", "moved", "[I", true)
def tyX5 : Nat → FieldType := fun k => match k with
  | 0 => .array .int
  | 1 => .array .int
  | 2 => .array .int
  | 3 => .boolean
  | 4 => .array .int
  | 5 => .array .int
  | 6 => .int
  | 7 => .int
  | 8 => .int
  | 9 => .int
  | 10 => .int
  | 11 => .boolean
  | 12 => .array (.object "java/lang/String")
  | 13 => .array .int
  | 14 => .int
  | 15 => .int
  | 16 => .int
  | 17 => .array .int
  | 18 => .array .int
  | 19 => .array .int
  | _ => .array .int
abbrev wsX50 : List Cond := u_ws RX5 TX5 21
theorem nmX5 : ∀ a, a < 21 → ∀ b, b < 21 → a ≠ b → (TX5 a).2.1 ≠ (TX5 b).2.1 := by decide +kernel
theorem tyX5_ok : ∀ k, k < 21 → parseFieldDescriptor (TX5 k).2.2.1 = some (tyX5 k) := by decide +kernel
def yX5_init : MethodName := ⟨RX5, "<init>", "()V"⟩
def mX5_init : sg_M := (RX5, prog_7_method_1_code, 2, none)
def yX5_finding : MethodName := ⟨RX5, "finding", "(I)I"⟩
def mX5_finding : sg_M := (RX5, prog_7_method_2_code, 2, (some .int))
def yX5_within : MethodName := ⟨RX5, "within", "(III)Z"⟩
def mX5_within : sg_M := (RX5, prog_7_method_3_code, 3, (some .boolean))
def yX5_become : MethodName := ⟨RX5, "become", "(II)I"⟩
def mX5_become : sg_M := (RX5, prog_7_method_4_code, 4, (some .int))
def yX5_copyRow : MethodName := ⟨RX5, "copyRow", "([I[I)V"⟩
def mX5_copyRow : sg_M := (RX5, prog_7_method_5_code, 3, none)
def yX5_putBack : MethodName := ⟨RX5, "putBack", "(I)I"⟩
def mX5_putBack : sg_M := (RX5, prog_7_method_6_code, 2, (some .int))
def yX5_orNone : MethodName := ⟨RX5, "orNone", "(I)I"⟩
def mX5_orNone : sg_M := (RX5, prog_7_method_7_code, 2, (some .int))
def yX5_bits : MethodName := ⟨RX5, "bits", "(I)I"⟩
def mX5_bits : sg_M := (RX5, prog_7_method_8_code, 3, (some .int))
def yX5_isOne : MethodName := ⟨RX5, "isOne", "(I)Z"⟩
def mX5_isOne : sg_M := (RX5, prog_7_method_9_code, 1, (some .boolean))
def yX5_isNine : MethodName := ⟨RX5, "isNine", "(I)Z"⟩
def mX5_isNine : sg_M := (RX5, prog_7_method_10_code, 1, (some .boolean))
def yX5_isPlace : MethodName := ⟨RX5, "isPlace", "(I)Z"⟩
def mX5_isPlace : sg_M := (RX5, prog_7_method_11_code, 1, (some .boolean))
def yX5_list : MethodName := ⟨RX5, "list", "(III)I"⟩
def mX5_list : sg_M := (RX5, prog_7_method_12_code, 4, (some .int))
def yX5_listed : MethodName := ⟨RX5, "listed", "(I)I"⟩
def mX5_listed : sg_M := (RX5, prog_7_method_13_code, 2, (some .int))
def yX5_placeNow : MethodName := ⟨RX5, "placeNow", "()I"⟩
def mX5_placeNow : sg_M := (RX5, prog_7_method_14_code, 1, (some .int))
def yX5_personAt : MethodName := ⟨RX5, "personAt", "(II)I"⟩
def mX5_personAt : sg_M := (RX5, prog_7_method_15_code, 2, (some .int))
def yX5_personIs : MethodName := ⟨RX5, "personIs", "(II)I"⟩
def mX5_personIs : sg_M := (RX5, prog_7_method_16_code, 3, (some .int))
def yX5_isPerson : MethodName := ⟨RX5, "isPerson", "(I)Z"⟩
def mX5_isPerson : sg_M := (RX5, prog_7_method_17_code, 2, (some .boolean))
def yX5_sayingAt : MethodName := ⟨RX5, "sayingAt", "(II)I"⟩
def mX5_sayingAt : sg_M := (RX5, prog_7_method_18_code, 2, (some .int))
def yX5_sayingIs : MethodName := ⟨RX5, "sayingIs", "(II)I"⟩
def mX5_sayingIs : sg_M := (RX5, prog_7_method_19_code, 3, (some .int))
def yX5_isSaying : MethodName := ⟨RX5, "isSaying", "(I)Z"⟩
def mX5_isSaying : sg_M := (RX5, prog_7_method_20_code, 2, (some .boolean))
def yX5_isKind : MethodName := ⟨RX5, "isKind", "(I)Z"⟩
def mX5_isKind : sg_M := (RX5, prog_7_method_21_code, 1, (some .boolean))
def yX5_comes : MethodName := ⟨RX5, "comes", "(II)I"⟩
def mX5_comes : sg_M := (RX5, prog_7_method_22_code, 4, (some .int))
def yX5_person : MethodName := ⟨RX5, "person", "(II)I"⟩
def mX5_person : sg_M := (RX5, prog_7_method_23_code, 3, (some .int))
def yX5_isBegun : MethodName := ⟨RX5, "isBegun", "(II)V"⟩
def mX5_isBegun : sg_M := (RX5, prog_7_method_24_code, 3, none)
def yX5_isSaid : MethodName := ⟨RX5, "isSaid", "(III)I"⟩
def mX5_isSaid : sg_M := (RX5, prog_7_method_25_code, 6, (some .int))
def yX5_saying : MethodName := ⟨RX5, "saying", "(III)I"⟩
def mX5_saying : sg_M := (RX5, prog_7_method_26_code, 4, (some .int))
def yX5_hasHeard : MethodName := ⟨RX5, "hasHeard", "(II)Z"⟩
def mX5_hasHeard : sg_M := (RX5, prog_7_method_27_code, 3, (some .boolean))
def yX5_heardBy : MethodName := ⟨RX5, "heardBy", "(I)I"⟩
def mX5_heardBy : sg_M := (RX5, prog_7_method_28_code, 4, (some .int))
def yX5_told : MethodName := ⟨RX5, "told", "(II)I"⟩
def mX5_told : sg_M := (RX5, prog_7_method_29_code, 3, (some .int))
def yX5_of : MethodName := ⟨RX5, "of", "(II)I"⟩
def mX5_of : sg_M := (RX5, prog_7_method_30_code, 3, (some .int))
def yX5_isField : MethodName := ⟨RX5, "isField", "(II)Z"⟩
def mX5_isField : sg_M := (RX5, prog_7_method_31_code, 2, (some .boolean))
def yX5_change : MethodName := ⟨RX5, "change", "(III)I"⟩
def mX5_change : sg_M := (RX5, prog_7_method_32_code, 4, (some .int))
def yX5_ofSaying : MethodName := ⟨RX5, "ofSaying", "(II)I"⟩
def mX5_ofSaying : sg_M := (RX5, prog_7_method_33_code, 3, (some .int))
def yX5_alter : MethodName := ⟨RX5, "alter", "(III)I"⟩
def mX5_alter : sg_M := (RX5, prog_7_method_34_code, 5, (some .int))
def yX5_from : MethodName := ⟨RX5, "from", "(II)I"⟩
def mX5_from : sg_M := (RX5, prog_7_method_35_code, 3, (some .int))
def yX5_tracedFrom : MethodName := ⟨RX5, "tracedFrom", "(II)I"⟩
def mX5_tracedFrom : sg_M := (RX5, prog_7_method_36_code, 6, (some .int))
def yX5_traced : MethodName := ⟨RX5, "traced", "(II)I"⟩
def mX5_traced : sg_M := (RX5, prog_7_method_37_code, 3, (some .int))
def yX5_tells : MethodName := ⟨RX5, "tells", "(III)Z"⟩
def mX5_tells : sg_M := (RX5, prog_7_method_38_code, 6, (some .boolean))
def yX5_believes : MethodName := ⟨RX5, "believes", "(II)Z"⟩
def mX5_believes : sg_M := (RX5, prog_7_method_39_code, 6, (some .boolean))
def yX5_names : MethodName := ⟨RX5, "names", "(II)I"⟩
def mX5_names : sg_M := (RX5, prog_7_method_40_code, 4, (some .int))
def yX5_pays : MethodName := ⟨RX5, "pays", "(II)I"⟩
def mX5_pays : sg_M := (RX5, prog_7_method_41_code, 3, (some .int))
def yX5_mayTalk : MethodName := ⟨RX5, "mayTalk", "(II)Z"⟩
def mX5_mayTalk : sg_M := (RX5, prog_7_method_42_code, 3, (some .boolean))
def yX5_talks : MethodName := ⟨RX5, "talks", "(II)I"⟩
def mX5_talks : sg_M := (RX5, prog_7_method_43_code, 5, (some .int))
def yX5_talk : MethodName := ⟨RX5, "talk", "(II)I"⟩
def mX5_talk : sg_M := (RX5, prog_7_method_44_code, 3, (some .int))
def yX5_more : MethodName := ⟨RX5, "more", "(III)V"⟩
def mX5_more : sg_M := (RX5, prog_7_method_45_code, 4, none)
def yX5_greatest : MethodName := ⟨RX5, "greatest", "(I)I"⟩
def mX5_greatest : sg_M := (RX5, prog_7_method_46_code, 2, (some .int))
def yX5_theNobody : MethodName := ⟨RX5, "theNobody", "()I"⟩
def mX5_theNobody : sg_M := (RX5, prog_7_method_47_code, 3, (some .int))
def yX5_trial : MethodName := ⟨RX5, "trial", "(I)V"⟩
def mX5_trial : sg_M := (RX5, prog_7_method_48_code, 5, none)
def yX5_day : MethodName := ⟨RX5, "day", "()V"⟩
def mX5_day : sg_M := (RX5, prog_7_method_49_code, 4, none)
def yX5_daysGo : MethodName := ⟨RX5, "daysGo", "(I)V"⟩
def mX5_daysGo : sg_M := (RX5, prog_7_method_50_code, 3, none)
def yX5_go : MethodName := ⟨RX5, "go", "(I)I"⟩
def mX5_go : sg_M := (RX5, prog_7_method_51_code, 2, (some .int))
def yX5_heardInAll : MethodName := ⟨RX5, "heardInAll", "()I"⟩
def mX5_heardInAll : sg_M := (RX5, prog_7_method_52_code, 3, (some .int))
def yX5_allHeard : MethodName := ⟨RX5, "allHeard", "(I)Z"⟩
def mX5_allHeard : sg_M := (RX5, prog_7_method_53_code, 2, (some .boolean))
def yX5_commonOnes : MethodName := ⟨RX5, "commonOnes", "()I"⟩
def mX5_commonOnes : sg_M := (RX5, prog_7_method_54_code, 3, (some .int))
def yX5_blamedInAll : MethodName := ⟨RX5, "blamedInAll", "()I"⟩
def mX5_blamedInAll : sg_M := (RX5, prog_7_method_55_code, 3, (some .int))
def yX5_blamedMost : MethodName := ⟨RX5, "blamedMost", "()I"⟩
def mX5_blamedMost : sg_M := (RX5, prog_7_method_56_code, 3, (some .int))
def yX5_deafOnes : MethodName := ⟨RX5, "deafOnes", "()I"⟩
def mX5_deafOnes : sg_M := (RX5, prog_7_method_57_code, 3, (some .int))
def yX5_fromNobody : MethodName := ⟨RX5, "fromNobody", "()I"⟩
def mX5_fromNobody : sg_M := (RX5, prog_7_method_58_code, 4, (some .int))
def yX5_now : MethodName := ⟨RX5, "now", "(I)I"⟩
def mX5_now : sg_M := (RX5, prog_7_method_59_code, 2, (some .int))
def yX5_behind : MethodName := ⟨RX5, "behind", "(II)I"⟩
def mX5_behind : sg_M := (RX5, prog_7_method_60_code, 3, (some .int))
def yX5_ahead : MethodName := ⟨RX5, "ahead", "(III)I"⟩
def mX5_ahead : sg_M := (RX5, prog_7_method_61_code, 4, (some .int))
def yX5_spread : MethodName := ⟨RX5, "spread", "(II)I"⟩
def mX5_spread : sg_M := (RX5, prog_7_method_62_code, 3, (some .int))
def yX5_when : MethodName := ⟨RX5, "when", "(II)I"⟩
def mX5_when : sg_M := (RX5, prog_7_method_63_code, 4, (some .int))
def yX5_daysTo : MethodName := ⟨RX5, "daysTo", "(II)I"⟩
def mX5_daysTo : sg_M := (RX5, prog_7_method_64_code, 4, (some .int))
def yX5_blamed : MethodName := ⟨RX5, "blamed", "(II)I"⟩
def mX5_blamed : sg_M := (RX5, prog_7_method_65_code, 3, (some .int))
def yX5_fund : MethodName := ⟨RX5, "fund", "(I)I"⟩
def mX5_fund : sg_M := (RX5, prog_7_method_66_code, 2, (some .int))
def yX5_isThought : MethodName := ⟨RX5, "isThought", "(I)Z"⟩
def mX5_isThought : sg_M := (RX5, prog_7_method_67_code, 1, (some .boolean))
def yX5_spreadBy : MethodName := ⟨RX5, "spreadBy", "(III)I"⟩
def mX5_spreadBy : sg_M := (RX5, prog_7_method_68_code, 4, (some .int))
def yX5_beginner : MethodName := ⟨RX5, "beginner", "(II)I"⟩
def mX5_beginner : sg_M := (RX5, prog_7_method_69_code, 7, (some .int))
def yX5_kindFor : MethodName := ⟨RX5, "kindFor", "(II)I"⟩
def mX5_kindFor : sg_M := (RX5, prog_7_method_70_code, 9, (some .int))
def yX5_trustFor : MethodName := ⟨RX5, "trustFor", "(III)I"⟩
def mX5_trustFor : sg_M := (RX5, prog_7_method_71_code, 8, (some .int))
def yX5_weightFor : MethodName := ⟨RX5, "weightFor", "(II)I"⟩
def mX5_weightFor : sg_M := (RX5, prog_7_method_72_code, 7, (some .int))
def yX5_staysAway : MethodName := ⟨RX5, "staysAway", "(IIII)Z"⟩
def mX5_staysAway : sg_M := (RX5, prog_7_method_73_code, 6, (some .boolean))
def yX5_hush : MethodName := ⟨RX5, "hush", "(III)I"⟩
def mX5_hush : sg_M := (RX5, prog_7_method_74_code, 6, (some .int))
def yX5_lacks : MethodName := ⟨RX5, "lacks", "(IZ)I"⟩
def mX5_lacks : sg_M := (RX5, prog_7_method_75_code, 3, (some .int))
def yX5_isSo : MethodName := ⟨RX5, "isSo", "(III)Z"⟩
def mX5_isSo : sg_M := (RX5, prog_7_method_76_code, 7, (some .boolean))
def yX5_fits : MethodName := ⟨RX5, "fits", "(II)I"⟩
def mX5_fits : sg_M := (RX5, prog_7_method_77_code, 8, (some .int))
def yX5_kinds : MethodName := ⟨RX5, "kinds", "(II)I"⟩
def mX5_kinds : sg_M := (RX5, prog_7_method_78_code, 8, (some .int))
def yX5_drawn : MethodName := ⟨RX5, "drawn", "()I"⟩
def mX5_drawn : sg_M := (RX5, prog_7_method_79_code, 1, (some .int))
def yX5_evening : MethodName := ⟨RX5, "evening", "(I)I"⟩
def mX5_evening : sg_M := (RX5, prog_7_method_80_code, 5, (some .int))
def yX5_odds : MethodName := ⟨RX5, "odds", "(IIII)J"⟩
def mX5_odds : sg_M := (RX5, prog_7_method_81_code, 13, (some .long))
def yX5_seed : MethodName := ⟨RX5, "seed", "(I)I"⟩
def mX5_seed : sg_M := (RX5, prog_7_method_82_code, 2, (some .int))
def yX5_feed : MethodName := ⟨RX5, "feed", "(II)I"⟩
def mX5_feed : sg_M := (RX5, prog_7_method_83_code, 4, (some .int))
def yX5_wipe : MethodName := ⟨RX5, "wipe", "()I"⟩
def mX5_wipe : sg_M := (RX5, prog_7_method_84_code, 2, (some .int))
def yX5_byteAt : MethodName := ⟨RX5, "byteAt", "(I)I"⟩
def mX5_byteAt : sg_M := (RX5, prog_7_method_85_code, 2, (some .int))
def yX5_token : MethodName := ⟨RX5, "token", "()V"⟩
def mX5_token : sg_M := (RX5, prog_7_method_86_code, 2, none)
def yX5_isWord : MethodName := ⟨RX5, "isWord", "(Ljava/lang/String;)Z"⟩
def mX5_isWord : sg_M := (RX5, prog_7_method_87_code, 4, (some .boolean))
def yX5_must : MethodName := ⟨RX5, "must", "(Z)V"⟩
def mX5_must : sg_M := (RX5, prog_7_method_88_code, 2, none)
def yX5_number : MethodName := ⟨RX5, "number", "(II)I"⟩
def mX5_number : sg_M := (RX5, prog_7_method_89_code, 4, (some .int))
def yX5_addItem : MethodName := ⟨RX5, "addItem", "(IIII)V"⟩
def mX5_addItem : sg_M := (RX5, prog_7_method_90_code, 6, none)
def yX5_takesWord : MethodName := ⟨RX5, "takesWord", "(Ljava/lang/String;)Z"⟩
def mX5_takesWord : sg_M := (RX5, prog_7_method_91_code, 3, (some .boolean))
def yX5_readPerson : MethodName := ⟨RX5, "readPerson", "(I)V"⟩
def mX5_readPerson : sg_M := (RX5, prog_7_method_92_code, 3, none)
def yX5_readSaying : MethodName := ⟨RX5, "readSaying", "()V"⟩
def mX5_readSaying : sg_M := (RX5, prog_7_method_93_code, 3, none)
def yX5_readItem : MethodName := ⟨RX5, "readItem", "()V"⟩
def mX5_readItem : sg_M := (RX5, prog_7_method_94_code, 4, none)
def yX5_isToldSo : MethodName := ⟨RX5, "isToldSo", "(I)V"⟩
def mX5_isToldSo : sg_M := (RX5, prog_7_method_95_code, 6, none)
def yX5_text : MethodName := ⟨RX5, "text", "()I"⟩
def mX5_text : sg_M := (RX5, prog_7_method_96_code, 2, (some .int))
def yX5_isSpot : MethodName := ⟨RX5, "isSpot", "(I)Z"⟩
def mX5_isSpot : sg_M := (RX5, prog_7_method_97_code, 1, (some .boolean))
def yX5_hold : MethodName := ⟨RX5, "hold", "(II)I"⟩
def mX5_hold : sg_M := (RX5, prog_7_method_98_code, 3, (some .int))
def yX5_as : MethodName := ⟨RX5, "as", "(II)I"⟩
def mX5_as : sg_M := (RX5, prog_7_method_99_code, 4, (some .int))
def yX5_isSheet : MethodName := ⟨RX5, "isSheet", "(I)Z"⟩
def mX5_isSheet : sg_M := (RX5, prog_7_method_100_code, 1, (some .boolean))
def yX5_cutTo : MethodName := ⟨RX5, "cutTo", "(II)I"⟩
def mX5_cutTo : sg_M := (RX5, prog_7_method_101_code, 2, (some .int))
def yX5_sheet : MethodName := ⟨RX5, "sheet", "(III)I"⟩
def mX5_sheet : sg_M := (RX5, prog_7_method_102_code, 5, (some .int))
def yX5_write : MethodName := ⟨RX5, "write", "(III)I"⟩
def mX5_write : sg_M := (RX5, prog_7_method_103_code, 4, (some .int))
def yX5_copy : MethodName := ⟨RX5, "copy", "(IIIII)I"⟩
def mX5_copy : sg_M := (RX5, prog_7_method_104_code, 7, (some .int))
def yX5_above : MethodName := ⟨RX5, "above", "(I)I"⟩
def mX5_above : sg_M := (RX5, prog_7_method_105_code, 1, (some .int))
def yX5_isUnder : MethodName := ⟨RX5, "isUnder", "(II)Z"⟩
def mX5_isUnder : sg_M := (RX5, prog_7_method_106_code, 3, (some .boolean))
def yX5_load : MethodName := ⟨RX5, "load", "(I)I"⟩
def mX5_load : sg_M := (RX5, prog_7_method_107_code, 3, (some .int))
def yX5_judge : MethodName := ⟨RX5, "judge", "(I)I"⟩
def mX5_judge : sg_M := (RX5, prog_7_method_108_code, 3, (some .int))
def yX5_image : MethodName := ⟨RX5, "image", "()I"⟩
def mX5_image : sg_M := (RX5, prog_7_method_109_code, 1, (some .int))
def yX5_undo : MethodName := ⟨RX5, "undo", "()I"⟩
def mX5_undo : sg_M := (RX5, prog_7_method_110_code, 1, (some .int))
def yX5_tear : MethodName := ⟨RX5, "tear", "()I"⟩
def mX5_tear : sg_M := (RX5, prog_7_method_111_code, 2, (some .int))
def yX5_count : MethodName := ⟨RX5, "count", "(I)I"⟩
def mX5_count : sg_M := (RX5, prog_7_method_112_code, 4, (some .int))
def yX5_status : MethodName := ⟨RX5, "status", "(I)I"⟩
def mX5_status : sg_M := (RX5, prog_7_method_113_code, 2, (some .int))
def RJ6 : String := "java/lang/Integer"
def yJ6_bitCount_0f7a4 : MethodName := ⟨RJ6, "bitCount", "(I)I"⟩
def mJ6_bitCount_0f7a4 : sg_M := (RJ6, prog_8_method_49_code, 1, (some .int))
def RJ9 : String := "java/lang/Math"
def yJ9_min_7cf53 : MethodName := ⟨RJ9, "min", "(II)I"⟩
def mJ9_min_7cf53 : sg_M := (RJ9, prog_9_method_69_code, 2, (some .int))
def RJ0 : String := "java/lang/String"
def yJ0_length_8abf5 : MethodName := ⟨RJ0, "length", "()I"⟩
def mJ0_length_8abf5 : sg_M := (RJ0, prog_10_method_54_code, 1, (some .int))
def yJ0_charAt_5068e : MethodName := ⟨RJ0, "charAt", "(I)C"⟩
def mJ0_charAt_5068e : sg_M := (RJ0, prog_10_method_56_code, 2, (some .char))
def yJ0_coder_7d493 : MethodName := ⟨RJ0, "coder", "()B"⟩
def mJ0_coder_7d493 : sg_M := (RJ0, prog_10_method_152_code, 1, (some .byte))
def yJ0_isLatin1_aae02 : MethodName := ⟨RJ0, "isLatin1", "()Z"⟩
def mJ0_isLatin1_aae02 : sg_M := (RJ0, prog_10_method_154_code, 1, (some .boolean))
def yJ0_checkIndex_df160 : MethodName := ⟨RJ0, "checkIndex", "(II)V"⟩
def mJ0_checkIndex_df160 : sg_M := (RJ0, prog_10_method_155_code, 2, none)
def RJ1 : String := "java/lang/StringLatin1"
def yJ1_charAt_3b067 : MethodName := ⟨RJ1, "charAt", "([BI)C"⟩
def mJ1_charAt_3b067 : sg_M := (RJ1, prog_11_method_2_code, 2, (some .char))
def RJ2 : String := "java/lang/StringUTF16"
def yJ2_getChar_3b067 : MethodName := ⟨RJ2, "getChar", "([BI)C"⟩
def mJ2_getChar_3b067 : sg_M := (RJ2, prog_12_method_5_code, 2, (some .char))
def yJ2_length_9d52b : MethodName := ⟨RJ2, "length", "([B)I"⟩
def mJ2_length_9d52b : sg_M := (RJ2, prog_12_method_6_code, 1, (some .int))
def yJ2_charAt_3b067 : MethodName := ⟨RJ2, "charAt", "([BI)C"⟩
def mJ2_charAt_3b067 : sg_M := (RJ2, prog_12_method_83_code, 2, (some .char))
def yJ2_checkIndex_2214a : MethodName := ⟨RJ2, "checkIndex", "(I[B)V"⟩
def mJ2_checkIndex_2214a : sg_M := (RJ2, prog_12_method_91_code, 2, none)
def RJ10 : String := "java/lang/System"
def RJ7 : String := "java/util/Arrays"
def yJ7_fill_53178 : MethodName := ⟨RJ7, "fill", "([II)V"⟩
def mJ7_fill_53178 : sg_M := (RJ7, prog_14_method_103_code, 4, none)
def RJ3 : String := "jdk/internal/util/Preconditions"
def yJ3_checkIndex_8e157 : MethodName := ⟨RJ3, "checkIndex", "(IILjava/util/function/BiFunction;)I"⟩
def mJ3_checkIndex_8e157 : sg_M := (RJ3, prog_15_method_11_code, 3, (some .int))
def RL : String := "NobodySaidLaw"
def mL_law : sg_M := (RL, code, 4, some .boolean)
abbrev vwCl : List vw_C := [(RX0, TX0, 4), (RX1, TX1, 3), (RX2, TX2, 5), (RX3, TX3, 15), (RX4, TX4, 7), (RX5, TX5, 21)]
set_option maxRecDepth 100000 in
theorem inX0_l : ∀ w ∈ wsX00, w ∈ lw_tbl := by decide +kernel
set_option maxRecDepth 100000 in
theorem inX1_l : ∀ w ∈ wsX10, w ∈ lw_tbl := by decide +kernel
set_option maxRecDepth 100000 in
theorem inX2_l : ∀ w ∈ wsX20, w ∈ lw_tbl := by decide +kernel
set_option maxRecDepth 100000 in
theorem inX3_l : ∀ w ∈ wsX30, w ∈ lw_tbl := by decide +kernel
set_option maxRecDepth 100000 in
theorem inX4_l : ∀ w ∈ wsX40, w ∈ lw_tbl := by decide +kernel
set_option maxRecDepth 100000 in
theorem inX5_l : ∀ w ∈ wsX50, w ∈ lw_tbl := by decide +kernel
end
section
/-! the words that every contract of mine takes: the good ones of the tables -/
def tw : List Cond := lw_tbl.filter goodWord
theorem tw_in {w : Cond} (h : w ∈ tw) : w ∈ lw_tbl := (List.mem_filter.mp h).1
theorem tw_of {w : Cond} (h : w ∈ lw_tbl) (g : goodWord w = true) : w ∈ tw := List.mem_filter.mpr ⟨h, g⟩
theorem tw_at {w : Cond} (i : Nat) (h : lw_tbl[i]? = some w) (g : goodWord w = true) : w ∈ tw := tw_of (List.mem_of_getElem? h) g
theorem tw_good {w : Cond} (h : w ∈ tw) : (w.onTables && w.keeps) = true ∨ ∃ ty, w = .arrayClass ty := good_of_word (List.mem_filter.mp h).2
theorem tw_goodIn {y : MethodName} {b : ByteArray} {n : Nat} {r : Option FieldType} (h : Cond.code y b n r ∈ tw) : GoodIn tw (Cond.code y b n r :: tw) := by
  intro w hw
  rcases List.mem_cons.mp hw with rfl | hw
  · exact ⟨h, tw_good h⟩
  · exact ⟨hw, tw_good hw⟩
theorem inX0 : ∀ w ∈ wsX00, w ∈ tw := fun w h => tw_of (inX0_l w h) ((by decide +kernel : ∀ w ∈ wsX00, goodWord w = true) w h)
theorem inX1 : ∀ w ∈ wsX10, w ∈ tw := fun w h => tw_of (inX1_l w h) ((by decide +kernel : ∀ w ∈ wsX10, goodWord w = true) w h)
theorem inX2 : ∀ w ∈ wsX20, w ∈ tw := fun w h => tw_of (inX2_l w h) ((by decide +kernel : ∀ w ∈ wsX20, goodWord w = true) w h)
theorem inX3 : ∀ w ∈ wsX30, w ∈ tw := fun w h => tw_of (inX3_l w h) ((by decide +kernel : ∀ w ∈ wsX30, goodWord w = true) w h)
theorem inX4 : ∀ w ∈ wsX40, w ∈ tw := fun w h => tw_of (inX4_l w h) ((by decide +kernel : ∀ w ∈ wsX40, goodWord w = true) w h)
theorem inX5 : ∀ w ∈ wsX50, w ∈ tw := fun w h => tw_of (inX5_l w h) ((by decide +kernel : ∀ w ∈ wsX50, goodWord w = true) w h)
/-! places and shapes -/
abbrev sg_S : Type := Nat → Nat → Int32
def sg_up (σ : sg_S) (k : Nat) (f : Nat → Int32) : sg_S := fun j => if j = k then f else σ j
def sg_st (σ : sg_S) (k i : Nat) (x : Int32) : sg_S := sg_up σ k (upd (σ k) i x)
def sg_Al : List (Option Nat) := [none, none, some 6, some 8, some 8, some 8, some 8, some 6, some 6, some 6, some 48, some 10, none, some 6, some 8, some 8, some 8, some 8, some 6, some 6, some 6, some 48, some 10, none, some 6, some 8, some 8, some 8, some 8, some 6, some 6, some 6, some 48, some 10, none, none, some 120, some 121, some 121, some 121, none, some 6, some 8, some 8, some 8, some 8, some 6, some 6, some 6, some 48, some 10, some 3, none, none, some 40, none, some 40, none, some 40, none, some 40, some 7, none, some 119, some 119, some 119, some 8, some 120, none, some 480, some 4, some 4, some 160, some 40]
def sg_A (k : Nat) : Option Nat := sg_Al.getD k none
def sg_Ol : List (Option (Nat × List (Option Nat))) := [some (4, [some 1, some 12, some 23, none, some 34, some 52, some 61]), some (3, [some 2, some 3, some 4, some 5, some 6, some 7, some 8, some 9, some 10, some 11, none, none, none, none, none]), none, none, none, none, none, none, none, none, none, none, some (3, [some 13, some 14, some 15, some 16, some 17, some 18, some 19, some 20, some 21, some 22, none, none, none, none, none]), none, none, none, none, none, none, none, none, none, none, some (3, [some 24, some 25, some 26, some 27, some 28, some 29, some 30, some 31, some 32, some 33, none, none, none, none, none]), none, none, none, none, none, none, none, none, none, none, some (0, [some 35, some 40, some 51, none]), some (2, [some 36, none, some 37, some 38, some 39]), none, none, none, none, some (3, [some 41, some 42, some 43, some 44, some 45, some 46, some 47, some 48, some 49, some 50, none, none, none, none, none]), none, none, none, none, none, none, none, none, none, none, none, none, some (1, [some 54, none, none]), none, some (1, [some 56, none, none]), none, some (1, [some 58, none, none]), none, some (1, [some 60, none, none]), none, none, some (5, [some 63, some 64, some 65, none, some 66, some 67, none, none, none, none, none, none, some 68, some 69, none, none, none, some 70, some 71, some 72, some 73]), none, none, none, none, none, none, none, none, none, none, none]
def sg_O (k : Nat) : Option (Nat × List (Option Nat)) := sg_Ol.getD k none
theorem sg_A_lt {k n : Nat} (h : sg_A k = some n) : k < 74 := by
  rcases Nat.lt_or_ge k 74 with q | q
  · exact q
  · unfold sg_A at h
    rw [List.getD_eq_getElem?_getD, List.getElem?_eq_none (show sg_Al.length ≤ k from q)] at h
    cases h
theorem sg_O_lt {k : Nat} {x : Nat × List (Option Nat)} (h : sg_O k = some x) : k < 74 := by
  rcases Nat.lt_or_ge k 74 with q | q
  · exact q
  · unfold sg_O at h
    rw [List.getD_eq_getElem?_getD, List.getElem?_eq_none (show sg_Ol.length ≤ k from q)] at h
    cases h
theorem sg_AO : ∀ k, k < 74 → (sg_O k).isSome = true → sg_A k = none := by decide +kernel
/-- D, the addresses of the places, the classes of int[], Sheet[], String[], the formatter, the script -/
abbrev sg_G : Type := va_G × (Nat → Nat) × (ClassId × ClassId × ClassId) × Value × Nat × (Nat → Int32)
abbrev sg_ad (G : sg_G) : Nat → Nat := G.2.1
def sg_v (G : sg_G) (v : Value) : Value := match v with
  | .ref k => if k = 140 then G.2.2.2.1 else .ref (G.2.1 k)
  | v => v
theorem sg_v_ref (G : sg_G) {k : Nat} (h : k ≠ 140) : sg_v G (.ref k) = .ref (sg_ad G k) := by simp [sg_v, h]
theorem sg_v_int (G : sg_G) (x : Int32) : sg_v G (.int x) = .int x := rfl
theorem sg_v_long (G : sg_G) (x : Int64) : sg_v G (.long x) = .long x := rfl
def sg_fl (ad : Nat → Nat) : List (Option Nat) → (Nat → Int32) → Nat → List Value
  | [], _, _ => []
  | none :: l, f, j => .int (f j) :: sg_fl ad l f (j + 1)
  | some k :: l, f, j => .ref (ad k) :: sg_fl ad l f (j + 1)
theorem sg_fl_len (ad : Nat → Nat) (f : Nat → Int32) : ∀ (l : List (Option Nat)) (j : Nat), (sg_fl ad l f j).length = l.length
  | [], _ => rfl
  | none :: l, j => by simp [sg_fl, sg_fl_len ad f l (j + 1)]
  | some k :: l, j => by simp [sg_fl, sg_fl_len ad f l (j + 1)]
theorem sg_fl_int (ad : Nat → Nat) (f : Nat → Int32) : ∀ (l : List (Option Nat)) (j i : Nat), l[i]? = some none → (sg_fl ad l f j)[i]? = some (.int (f (j + i)))
  | none :: l, j, 0, _ => by simp [sg_fl]
  | none :: l, j, i + 1, h => by
    have := sg_fl_int ad f l (j + 1) i (by simpa using h)
    simp only [sg_fl, List.getElem?_cons_succ, this]
    congr 3; omega
  | some k :: l, j, i + 1, h => by
    have := sg_fl_int ad f l (j + 1) i (by simpa using h)
    simp only [sg_fl, List.getElem?_cons_succ, this]
    congr 3; omega
  | some k :: l, j, 0, h => by simp at h
  | [], j, i, h => by simp at h
theorem sg_fl_ref (ad : Nat → Nat) (f : Nat → Int32) : ∀ (l : List (Option Nat)) (j i k : Nat), l[i]? = some (some k) → (sg_fl ad l f j)[i]? = some (.ref (ad k))
  | some k :: l, j, 0, k', h => by simp at h; simp [sg_fl, h]
  | none :: l, j, 0, k', h => by simp at h
  | none :: l, j, i + 1, k', h => by simpa [sg_fl] using sg_fl_ref ad f l (j + 1) i k' (by simpa using h)
  | some k :: l, j, i + 1, k', h => by simpa [sg_fl] using sg_fl_ref ad f l (j + 1) i k' (by simpa using h)
  | [], j, i, k', h => by simp at h
theorem sg_fl_same (ad : Nat → Nat) (f g : Nat → Int32) : ∀ (l : List (Option Nat)) (j : Nat), (∀ i, j ≤ i → f i = g i) → sg_fl ad l f j = sg_fl ad l g j
  | [], _, _ => rfl
  | none :: l, j, h => by simp [sg_fl, h j (Nat.le_refl j), sg_fl_same ad f g l (j + 1) (fun i hi => h i (by omega))]
  | some k :: l, j, h => by simp [sg_fl, sg_fl_same ad f g l (j + 1) (fun i hi => h i (by omega))]
theorem sg_fl_set (ad : Nat → Nat) (x : Int32) : ∀ (l : List (Option Nat)) (f : Nat → Int32) (j i : Nat), l[i]? = some none → (sg_fl ad l f j).set i (.int x) = sg_fl ad l (upd f (j + i) x) j
  | none :: l, f, j, 0, _ => by
    simp only [sg_fl, List.set_cons_zero, Nat.add_zero]
    rw [sg_fl_same ad f (upd f j x) l (j + 1) (fun i hi => by simp [upd]; intro e; omega)]
    simp [upd]
  | none :: l, f, j, i + 1, h => by
    have := sg_fl_set ad x l f (j + 1) i (by simpa using h)
    simp only [sg_fl, List.set_cons_succ, this]
    rw [show j + 1 + i = j + (i + 1) by omega]
    congr 2
    simp [upd]
  | some k :: l, f, j, i + 1, h => by
    have := sg_fl_set ad x l f (j + 1) i (by simpa using h)
    simp only [sg_fl, List.set_cons_succ, this]
    rw [show j + 1 + i = j + (i + 1) by omega]
  | some k :: l, f, j, 0, h => by simp at h
  | [], f, j, i, h => by simp at h
def sg_E (G : sg_G) (k : Nat) (f : Nat → Int32) : va_E := match sg_A k with
  | some n => .inl (G.2.2.1.1, n, .inl f)
  | none => match sg_O k with
    | some q => .inr (q.1, sg_fl (sg_ad G) q.2 f 0)
    | none => if k = 52 then .inl (G.2.2.1.2.1, 4, .inr (.inr (.inr (.inr (fun i => some (sg_ad G (53 + 2 * i))))))) else .inl (G.2.2.1.2.2, 7, .inr (.inr (.inr (.inr (fun i => some (sg_ad G (100 + i)))))))
theorem sg_E_arr {G : sg_G} {k n : Nat} {f : Nat → Int32} (h : sg_A k = some n) : sg_E G k f = .inl (G.2.2.1.1, n, .inl f) := by simp [sg_E, h]
theorem sg_E_obj {G : sg_G} {k ci : Nat} {fl : List (Option Nat)} {f : Nat → Int32} (h : sg_O k = some (ci, fl)) : sg_E G k f = .inr (ci, sg_fl (sg_ad G) fl f 0) := by
  have hA := sg_AO k (sg_O_lt h) (by rw [h]; rfl)
  simp [sg_E, hA, h]
def sg_W (G : sg_G) (σ : sg_S) : va_W := (List.range 74).map fun k => (sg_ad G k, sg_E G k (σ k))
theorem sg_W_at {G : sg_G} {σ : sg_S} {k : Nat} (h : k < 74) : (sg_W G σ)[k]? = some (sg_ad G k, sg_E G k (σ k)) := by simp [sg_W, h]
theorem sg_W_len {G : sg_G} {σ : sg_S} : (sg_W G σ).length = 74 := by simp [sg_W]
theorem sg_W_set {G : sg_G} {σ : sg_S} {k : Nat} {f : Nat → Int32} {e : va_E} (h : k < 74) (he : e = sg_E G k f) : (sg_W G σ).set k (sg_ad G k, e) = sg_W G (sg_up σ k f) := by
  apply List.ext_getElem?
  intro j
  rw [List.getElem?_set]
  by_cases hj : k = j
  · subst hj
    rw [if_pos rfl, sg_W_len, if_pos h, sg_W_at h, he]
    simp [sg_up]
  · rw [if_neg hj]
    by_cases h2 : j < 74
    · rw [sg_W_at h2, sg_W_at h2]
      simp [sg_up, Ne.symm hj]
    · rw [List.getElem?_eq_none (by rw [sg_W_len]; omega), List.getElem?_eq_none (by rw [sg_W_len]; omega)]
def sg_Ad (G : sg_G) : Nat → Prop := fun q => ∃ k, k < 74 ∧ q = sg_ad G k
theorem sg_W_inv {G : sg_G} {σ : sg_S} {k : Nat} {q : Nat × va_E} (h : (sg_W G σ)[k]? = some q) : k < 74 ∧ q = (sg_ad G k, sg_E G k (σ k)) := by
  have hk : k < 74 := by
    have := (List.getElem?_eq_some_iff.mp h).1
    rwa [sg_W_len] at this
  rw [sg_W_at hk] at h
  exact ⟨hk, (Option.some.inj h).symm⟩
theorem sg_D_any {G : sg_G} {σ σ' : sg_S} {A : Nat → Prop} (h : va_D A (sg_W G σ)) : va_D A (sg_W G σ') := by
  refine ⟨fun i j p q hi hj e => ?_, fun k q hk => ?_⟩
  · obtain ⟨h1, rfl⟩ := sg_W_inv hi
    obtain ⟨h2, rfl⟩ := sg_W_inv hj
    exact h.1 i j _ _ (sg_W_at h1) (sg_W_at h2) e
  · obtain ⟨h1, rfl⟩ := sg_W_inv hk
    have h3 := h.2 k _ (sg_W_at (σ := σ) h1)
    exact h3
abbrev sg_ty (G : sg_G) : List (ClassId × FieldType) := [(G.2.2.1.1, .int), (G.2.2.1.2.1, .object RX1), (G.2.2.1.2.2, .object "java/lang/String")]
def sg_len : List Nat := [6, 6, 5, 5, 6, 4, 5, 5, 5, 6, 4, 68]
def sg_byt : List (List Int32) := [[112, 101, 114, 115, 111, 110], [103, 111, 115, 115, 105, 112], [99, 108, 101, 114, 107], [106, 117, 100, 103, 101], [110, 111, 98, 111, 100, 121], [109, 117, 116, 101], [99, 104, 105, 108, 100], [116, 114, 117, 115, 116], [113, 117, 105, 101, 116], [115, 97, 121, 105, 110, 103], [116, 97, 108, 107], [112, 101, 114, 115, 111, 110, 32, 103, 111, 115, 115, 105, 112, 32, 99, 108, 101, 114, 107, 32, 106, 117, 100, 103, 101, 32, 110, 111, 98, 111, 100, 121, 32, 109, 117, 116, 101, 32, 99, 104, 105, 108, 100, 32, 115, 97, 121, 105, 110, 103, 32, 116, 97, 108, 107, 32, 116, 114, 117, 115, 116, 32, 113, 117, 105, 101, 116, 32]]
def sg_Rt : List (String × Nat × String × Nat) := [("NobodySaidModel", 27, "person", 0), ("NobodySaidModel", 29, "gossip", 1), ("NobodySaidModel", 31, "clerk", 2), ("NobodySaidModel", 33, "judge", 3), ("NobodySaidModel", 35, "nobody", 4), ("NobodySaidModel", 37, "mute", 5), ("NobodySaidModel", 39, "child", 6), ("NobodySaidModel", 294, "trust", 7), ("NobodySaidModel", 302, "quiet", 8), ("NobodySaidModel", 314, "saying", 9), ("NobodySaidModel", 319, "talk", 10), ("NobodySaid$Tape", 58, "person gossip clerk judge nobody mute child saying talk trust quiet ", 11)]
/-- what never changes: String constants, statics, the script -/
def sg_T (G : sg_G) (U : State) (H : Heap) : Prop :=
  vk_S 12 sg_len sg_byt (fun i => sg_ad G (100 + i)) (fun i => sg_ad G (120 + i)) (sg_Ad G) U H ∧ va_Z "java/lang/String" "COMPACT_STRINGS" "Z" (.int 1) (sg_Ad G) U H ∧
  va_Z "jdk/internal/util/Preconditions" "SIOOBE_FORMATTER" "Ljava/util/function/BiFunction;" G.2.2.2.1 (sg_Ad G) U H ∧ va_X (sg_ad G 99) G.2.2.2.2.1 G.2.2.2.2.2 U H ∧ sg_ad G 99 < H.size ∧ ¬ sg_Ad G (sg_ad G 99)
def sg_R (G : sg_G) (U : State) : Prop := (∀ q ∈ sg_Rt, vk_R q.1 q.2.1 q.2.2.1 (sg_ad G (100 + q.2.2.2)) U) ∧ va_Nw (.methodLinkNest RX0 62 yX4_within RX4) U ∧ G.2.2.2.1.category = 1
theorem sg_T.moved {G : sg_G} {u U : State} {H : Heap} (hvm : u.vm.Alike U.vm) (h : sg_T G u H) : sg_T G U H :=
  ⟨vk_S.moved hvm h.1, va_Z.moved hvm h.2.1, va_Z.moved hvm h.2.2.1, va_X.moved hvm h.2.2.2.1, h.2.2.2.2⟩
theorem sg_T.kept {G : sg_G} {U : State} {H H1 : Heap} (h : sg_T G U H) (hz : H.size ≤ H1.size) (hq : ∀ a : Nat, a < H.size → ¬ sg_Ad G a → H1[a]? = H[a]?) : sg_T G U H1 :=
  ⟨h.1.kept hq, h.2.1.kept hq, h.2.2.1.kept hq, h.2.2.2.1.kept (hq _ h.2.2.2.2.1 h.2.2.2.2.2), Nat.lt_of_lt_of_le h.2.2.2.2.1 hz, h.2.2.2.2.2⟩
theorem sg_R.warm {G : sg_G} {s U : State} (hW : s.WarmedH U.vm) (h : sg_R G s) : sg_R G U := ⟨fun q hq => (h.1 q hq).warm hW, h.2.1.warmM hW, h.2.2⟩
theorem sg_R.same {G : sg_G} {u U : State} (hv : U.vm = u.vm) (h : sg_R G u) : sg_R G U := ⟨fun q hq => (h.1 q hq).same hv, h.2.1.same rfl hv.symm, h.2.2⟩
/-- the world of a call -/
def sg_Wd (G : sg_G) (σ : sg_S) (U : State) : Prop := va_P G.1 vwCl (sg_W G σ) U.heap ∧ va_K G.1 vwCl (sg_ty G) U ∧ va_D (sg_Ad G) (sg_W G σ) ∧ sg_T G U U.heap ∧ sg_R G U
def sg_Q (G : sg_G) (r : Option Value × sg_S) : Array Value → State → Outcome → State → Prop := fun _ st o t => o = .returned (r.1.map (sg_v G)) ∧ va_P G.1 vwCl (sg_W G r.2) t.heap ∧ va_F (sg_Ad G) st t
theorem sg_Wd.blind (av : List Value) (G : sg_G) (σ : sg_S) : FrameBlind (va_Pc av (sg_Wd G σ)) := by
  intro a U g mk h
  obtain ⟨h0, h1, h2, h3, h4, h5⟩ := h
  exact ⟨h0, h1, va_K.moved (u := U) (U := U.calling g mk a) (Vm.Alike.refl U.vm) h2, h3, sg_T.moved (u := U) (U := U.calling g mk a) (Vm.Alike.refl U.vm) h4, h5.same rfl⟩
/-- the machine's context of a frame -/
def sg_Cx (M : sg_M) (G : sg_G) (p : Program) (s : State) (m : MethodId) (args : Array Value) (meth : Method) (c : Code) : Prop :=
  p.tables.exec = Jvm.exec ∧ c.code = M.2.1 ∧ c.maxLocals = M.2.2.1 ∧ s.vm.findClass M.1 = some m.cls ∧ (∀ w ∈ tw, w.before args s = true) ∧ va_K G.1 vwCl (sg_ty G) s ∧ sg_T G s s.heap ∧ sg_R G s
def sg_H (G : sg_G) (σ : sg_S) (s : State) (H : Heap) (locs : List Loc) : Prop := va_P G.1 vwCl (sg_W G σ) H ∧ va_D (sg_Ad G) (sg_W G σ) ∧ va_S (sg_Ad G) s.heap H locs
def sg_L (G : sg_G) (n : Nat) (lsA : Array Slot) (ls : List (Option Value)) : Prop := lsA.size = n ∧ lv_wf lsA ∧ ∀ (i : Nat) (v : Value), ls[i]? = some (some v) → lsA[i]? = some (.val (sg_v G v))
def sg_ri (v : Option Value) : Instr := match v with
  | none => .return_
  | some (.long _) => .lreturn
  | _ => .ireturn
/-- how a stretch ends: the method returns, or it comes to a place with an empty stack -/
abbrev sg_X : Type := (Option Value × sg_S) ⊕ (Nat × List (Option Value) × sg_S)
def sg_Fin (M : sg_M) (R : Room) (l : Launch) (G : sg_G) (p : Program) (e : Env) (s : State) (m : MethodId) (args : Array Value) (below : List Frame) (meth : Method) (c : Code) (cells slots : Nat) (Q : State → Prop) (x : sg_X) : Prop := match x with
  | .inl r => ∀ (H' : Heap) (locs' : List Loc) (lsA' : Array Slot) (pc' : Nat), sg_H G r.2 s H' locs' → (∀ v ty, r.1 = some (.int v) → M.2.2.2 = some ty → narrow ty (.int v) = .int v) → decode M.2.1 pc' = .ok (sg_ri r.1, 1) →
    W p l e R s m args below meth c H' locs' cells slots Q (F0 m pc' lsA' (r.1.map (sg_v G)).toList)
  | .inr q => ∀ (H' : Heap) (locs' : List Loc) (lsA' : Array Slot), sg_H G q.2.2 s H' locs' → sg_L G M.2.2.1 lsA' q.2.1 → W p l e R s m args below meth c H' locs' cells slots Q (F0 m q.1 lsA' [])
/-- THE JUDGEMENT: from this frame, over the state σ, the stretch ends with what X tells -/
def Ev (M : sg_M) (R : Room) (pc : Nat) (ls : List (Option Value)) (st : List Value) (σ : sg_S) {α : Type} (emb : α → sg_X) (X : Option α) : Prop :=
  ∀ a : α, X = some a → ∀ (l : Launch) (G : sg_G) (p : Program) (e : Env) (s : State) (m : MethodId) (args : Array Value) (below : List Frame) (meth : Method) (c : Code) (H : Heap) (locs : List Loc) (lsA : Array Slot) (cells slots : Nat) (Q : State → Prop),
    sg_Cx M G p s m args meth c → sg_H G σ s H locs → sg_L G M.2.2.1 lsA ls → cells ≤ R.cells ∧ slots ≤ R.slots → sg_Fin M R l G p e s m args below meth c cells slots Q (emb a) → W p l e R s m args below meth c H locs cells slots Q (F0 m pc lsA (st.map (sg_v G)))
/-- an instruction at its place, with the next one's -/
def Ins (M : sg_M) (pc nx len : Nat) (i : Instr) : Prop := decode M.2.1 pc = .ok (i, len) ∧ pc + len = nx
/-- a jump, with its target -/
def InB (M : sg_M) (pc nx tgt : Nat) (i : Int → Instr) : Prop := decode M.2.1 pc = .ok (i ((tgt : Int) - (pc : Int)), 3) ∧ pc + 3 = nx
end
section
section RW
variable {M : sg_M} {R : Room} {pc nx tgt : Nat} {ls : List (Option Value)} {st : List Value} {σ : sg_S} {α : Type} {emb : α → sg_X} {X Y : Option α}
theorem ev_none : Ev M R pc ls st σ emb none := fun a h => by cases h

theorem ev_iconst {n : Int} {v : Int32} (hd : Ins M pc nx 1 (.iconst n)) (hv : Int32.ofInt n = v) (k : Ev M R nx ls (.int v :: st) σ emb X) : Ev M R pc ls st σ emb X := by
  intro a ha l G p e s m args below meth c H locs lsA cells slots Q C hH hL hc hF
  obtain ⟨h1, rfl⟩ := hd
  exact lv_iconst C.1 C.2.1 h1 hv (k a ha l G p e s m args below meth c H locs lsA cells slots Q C hH hL hc hF)

theorem ev_bipush {n : Int} {v : Int32} (hd : Ins M pc nx 2 (.bipush n)) (hv : (Int8.ofInt n).toInt32 = v) (k : Ev M R nx ls (.int v :: st) σ emb X) : Ev M R pc ls st σ emb X := by
  intro a ha l G p e s m args below meth c H locs lsA cells slots Q C hH hL hc hF
  obtain ⟨h1, rfl⟩ := hd
  exact lv_bipush C.1 C.2.1 h1 hv (k a ha l G p e s m args below meth c H locs lsA cells slots Q C hH hL hc hF)

theorem ev_sipush {n : Int} {v : Int32} (hd : Ins M pc nx 3 (.sipush n)) (hv : (Int16.ofInt n).toInt32 = v) (k : Ev M R nx ls (.int v :: st) σ emb X) : Ev M R pc ls st σ emb X := by
  intro a ha l G p e s m args below meth c H locs lsA cells slots Q C hH hL hc hF
  obtain ⟨h1, rfl⟩ := hd
  exact lv_sipush C.1 C.2.1 h1 hv (k a ha l G p e s m args below meth c H locs lsA cells slots Q C hH hL hc hF)

theorem ev_lconst {n : Fin 2} {v : Int64} (hd : Ins M pc nx 1 (.lconst n)) (hv : Int64.ofNat (n : Nat) = v) (k : Ev M R nx ls (.long v :: st) σ emb X) : Ev M R pc ls st σ emb X := by
  intro a ha l G p e s m args below meth c H locs lsA cells slots Q C hH hL hc hF
  obtain ⟨h1, rfl⟩ := hd
  exact lv_lconst C.1 C.2.1 h1 hv (k a ha l G p e s m args below meth c H locs lsA cells slots Q C hH hL hc hF)

theorem ev_ldc {index : Nat} {v : Int32} (hd : Ins M pc nx 2 (.ldc index)) (hw : Cond.constant M.1 index v ∈ tw) (k : Ev M R nx ls (.int v :: st) σ emb X) : Ev M R pc ls st σ emb X := by
  intro a ha l G p e s m args below meth c H locs lsA cells slots Q C hH hL hc hF
  obtain ⟨h1, rfl⟩ := hd
  exact W.ldc C.1 C.2.1 C.2.2.2.1 (C.2.2.2.2.1 _ hw) rfl h1 (k a ha l G p e s m args below meth c H locs lsA cells slots Q C hH hL hc hF)

theorem ev_ldcw {index : Nat} {v : Int32} (hd : Ins M pc nx 3 (.ldc_w index)) (hw : Cond.constant M.1 index v ∈ tw) (k : Ev M R nx ls (.int v :: st) σ emb X) : Ev M R pc ls st σ emb X := by
  intro a ha l G p e s m args below meth c H locs lsA cells slots Q C hH hL hc hF
  obtain ⟨h1, rfl⟩ := hd
  exact lv_ldcw C.1 C.2.1 C.2.2.2.1 (C.2.2.2.2.1 _ hw) h1 (k a ha l G p e s m args below meth c H locs lsA cells slots Q C hH hL hc hF)

theorem ev_ldcS {index : Nat} {tx : String} {i : Nat} (hd : Ins M pc nx 2 (.ldc index)) (hw : (M.1, index, tx, i) ∈ sg_Rt) (hi : i < 12) (k : Ev M R nx ls (.ref (100 + i) :: st) σ emb X) : Ev M R pc ls st σ emb X := by
  intro a ha l G p e s m args below meth c H locs lsA cells slots Q C hH hL hc hF
  obtain ⟨h1, rfl⟩ := hd
  have kk := k a ha l G p e s m args below meth c H locs lsA cells slots Q C hH hL hc hF
  rw [List.map_cons, sg_v_ref G (by omega)] at kk
  exact va_ldcS C.1 C.2.1 C.2.2.2.1 (C.2.2.2.2.2.2.2.1 _ hw) h1 kk

theorem ev_ldcwS {index : Nat} {tx : String} {i : Nat} (hd : Ins M pc nx 3 (.ldc_w index)) (hw : (M.1, index, tx, i) ∈ sg_Rt) (hi : i < 12) (k : Ev M R nx ls (.ref (100 + i) :: st) σ emb X) : Ev M R pc ls st σ emb X := by
  intro a ha l G p e s m args below meth c H locs lsA cells slots Q C hH hL hc hF
  obtain ⟨h1, rfl⟩ := hd
  have kk := k a ha l G p e s m args below meth c H locs lsA cells slots Q C hH hL hc hF
  rw [List.map_cons, sg_v_ref G (by omega)] at kk
  intro T hT X0
  obtain ⟨t, a1, b1⟩ := kk T hT X0
  have hZ := C.2.2.2.2.2.2.2.1 _ hw
  exact ⟨t, X0.ldcStringW C.1 C.2.2.2.1 (text := tx) (a := sg_ad G (100 + i)) hZ.1 hZ.2 (g := F0 m pc lsA (st.map (sg_v G))) rfl (by rw [C.2.1]; exact h1) t a1, b1⟩

theorem ev_iload_n {k0 : Fin 4} {i : Nat} {x : Int32} (hd : Ins M pc nx 1 (.iload_n k0)) (hi : (k0 : Nat) = i) (hl : ls[i]? = some (some (.int x))) (k : Ev M R nx ls (.int x :: st) σ emb X) : Ev M R pc ls st σ emb X := by
  intro a ha l G p e s m args below meth c H locs lsA cells slots Q C hH hL hc hF
  obtain ⟨h1, rfl⟩ := hd
  exact lv_iload_n C.1 C.2.1 h1 hi (hL.2.2 i _ hl) (k a ha l G p e s m args below meth c H locs lsA cells slots Q C hH hL hc hF)

theorem ev_iload {i : Nat} {x : Int32} (hd : Ins M pc nx 2 (.iload i)) (hl : ls[i]? = some (some (.int x))) (k : Ev M R nx ls (.int x :: st) σ emb X) : Ev M R pc ls st σ emb X := by
  intro a ha l G p e s m args below meth c H locs lsA cells slots Q C hH hL hc hF
  obtain ⟨h1, rfl⟩ := hd
  exact lv_iload C.1 C.2.1 h1 (hL.2.2 i _ hl) (k a ha l G p e s m args below meth c H locs lsA cells slots Q C hH hL hc hF)

theorem ev_lload_n {k0 : Fin 4} {i : Nat} {x : Int64} (hd : Ins M pc nx 1 (.lload_n k0)) (hi : (k0 : Nat) = i) (hl : ls[i]? = some (some (.long x))) (k : Ev M R nx ls (.long x :: st) σ emb X) : Ev M R pc ls st σ emb X := by
  intro a ha l G p e s m args below meth c H locs lsA cells slots Q C hH hL hc hF
  obtain ⟨h1, rfl⟩ := hd
  exact lv_lload_n C.1 C.2.1 h1 hi (hL.2.2 i _ hl) (k a ha l G p e s m args below meth c H locs lsA cells slots Q C hH hL hc hF)

theorem ev_lload {i : Nat} {x : Int64} (hd : Ins M pc nx 2 (.lload i)) (hl : ls[i]? = some (some (.long x))) (k : Ev M R nx ls (.long x :: st) σ emb X) : Ev M R pc ls st σ emb X := by
  intro a ha l G p e s m args below meth c H locs lsA cells slots Q C hH hL hc hF
  obtain ⟨h1, rfl⟩ := hd
  exact lv_lload C.1 C.2.1 h1 (hL.2.2 i _ hl) (k a ha l G p e s m args below meth c H locs lsA cells slots Q C hH hL hc hF)

theorem ev_aload_n {k0 : Fin 4} {i k1 : Nat} (hd : Ins M pc nx 1 (.aload_n k0)) (hi : (k0 : Nat) = i) (hk : k1 ≠ 140) (hl : ls[i]? = some (some (.ref k1))) (k : Ev M R nx ls (.ref k1 :: st) σ emb X) : Ev M R pc ls st σ emb X := by
  intro a ha l G p e s m args below meth c H locs lsA cells slots Q C hH hL hc hF
  obtain ⟨h1, rfl⟩ := hd
  have kk := k a ha l G p e s m args below meth c H locs lsA cells slots Q C hH hL hc hF
  have h2 := hL.2.2 i _ hl
  rw [List.map_cons, sg_v_ref G hk] at kk
  rw [sg_v_ref G hk] at h2
  exact lv_aload_n C.1 C.2.1 h1 hi h2 kk

theorem ev_aload {i k1 : Nat} (hd : Ins M pc nx 2 (.aload i)) (hk : k1 ≠ 140) (hl : ls[i]? = some (some (.ref k1))) (k : Ev M R nx ls (.ref k1 :: st) σ emb X) : Ev M R pc ls st σ emb X := by
  intro a ha l G p e s m args below meth c H locs lsA cells slots Q C hH hL hc hF
  obtain ⟨h1, rfl⟩ := hd
  have kk := k a ha l G p e s m args below meth c H locs lsA cells slots Q C hH hL hc hF
  have h2 := hL.2.2 i _ hl
  rw [List.map_cons, sg_v_ref G hk] at kk
  rw [sg_v_ref G hk] at h2
  exact lv_aload C.1 C.2.1 h1 h2 kk

theorem sg_pairs {G : sg_G} {n : Nat} {lsA : Array Slot} {ls : List (Option Value)} (h : sg_L G n lsA ls) (l : List (Nat × Value)) (hl : ∀ q ∈ l, ls[q.1]? = some (some q.2)) : lv_has lsA n (l.map fun q => (q.1, sg_v G q.2)) := by
  refine ⟨h.1, h.2.1, fun q hq => ?_⟩
  obtain ⟨q0, h0, rfl⟩ := List.mem_map.mp hq
  exact h.2.2 _ _ (hl q0 h0)
/-- the known locals, as pairs -/
def sg_pr : List (Option Value) → Nat → List (Nat × Value)
  | [], _ => []
  | none :: l, i => sg_pr l (i + 1)
  | some v :: l, i => (i, v) :: sg_pr l (i + 1)
theorem sg_pr_mem : ∀ (l : List (Option Value)) (j : Nat) (q : Nat × Value), q ∈ sg_pr l j → ∃ i, q.1 = j + i ∧ l[i]? = some (some q.2)
  | [], _, _, h => by simp [sg_pr] at h
  | none :: l, j, q, h => by
    obtain ⟨i, h1, h2⟩ := sg_pr_mem l (j + 1) q h
    exact ⟨i + 1, by omega, by simpa using h2⟩
  | some v :: l, j, q, h => by
    rcases List.mem_cons.mp h with rfl | h
    · exact ⟨0, rfl, rfl⟩
    · obtain ⟨i, h1, h2⟩ := sg_pr_mem l (j + 1) q h
      exact ⟨i + 1, by omega, by simpa using h2⟩
theorem sg_pr_in : ∀ (l : List (Option Value)) (j i : Nat) (v : Value), l[i]? = some (some v) → (j + i, v) ∈ sg_pr l j
  | [], _, _, _, h => by simp at h
  | none :: l, j, 0, v, h => by simp at h
  | some w :: l, j, 0, v, h => by simp at h; subst h; exact List.mem_cons_self
  | none :: l, j, i + 1, v, h => by
    have := sg_pr_in l (j + 1) i v (by simpa using h)
    rw [show j + 1 + i = j + (i + 1) by omega] at this
    exact this
  | some w :: l, j, i + 1, v, h => by
    have := sg_pr_in l (j + 1) i v (by simpa using h)
    rw [show j + 1 + i = j + (i + 1) by omega] at this
    exact List.mem_cons_of_mem _ this
theorem sg_L_has {G : sg_G} {n : Nat} {lsA : Array Slot} {ls : List (Option Value)} (h : sg_L G n lsA ls) : lv_has lsA n ((sg_pr ls 0).map fun q => (q.1, sg_v G q.2)) := by
  refine sg_pairs h _ fun q hq => ?_
  obtain ⟨i, h1, h2⟩ := sg_pr_mem ls 0 q hq
  rw [h1, Nat.zero_add]
  exact h2
/-- no category 2 value ahead of place i -/
def sg_ok1 (ls : List (Option Value)) (i : Nat) : Prop := ∀ v, i ≠ 0 → ls[i - 1]? = some (some v) → v.category = 1
theorem sg_L_of1 {G : sg_G} {n i : Nat} {lsB : Array Slot} {ls : List (Option Value)} {v : Value} (hlt : i < ls.length) (ho : ∀ w, i ≠ 0 → ls[i - 1]? = some (some w) → (sg_v G w).category = 1)
    (h : lv_has lsB n ((i, sg_v G v) :: ((sg_pr ls 0).map fun q => (q.1, sg_v G q.2)).filter (fun q => !(q.1 == i) && !(q.1 + 1 == i && q.2.category == 2)))) : sg_L G n lsB (ls.set i (some v)) := by
  refine ⟨h.1, h.2.1, fun j w hj => ?_⟩
  rw [List.getElem?_set] at hj
  by_cases e : i = j
  · subst e
    rw [if_pos rfl, if_pos hlt] at hj
    cases hj
    exact h.2.2 (i, sg_v G v) List.mem_cons_self
  · rw [if_neg e] at hj
    have h1 := sg_pr_in ls 0 j w hj
    rw [Nat.zero_add] at h1
    refine h.2.2 (j, sg_v G w) (List.mem_cons_of_mem _ (List.mem_filter.mpr ⟨List.mem_map.mpr ⟨(j, w), h1, rfl⟩, ?_⟩))
    have h2 : ¬ (j == i) = true := by simp; exact fun q => e q.symm
    have h3 : ¬ ((j + 1 == i && (sg_v G w).category == 2) = true) := by
      intro q
      simp at q
      have := ho w (by omega) (by rw [← q.1]; exact hj)
      omega
    simp only [Bool.not_eq_true] at h2 h3
    simp [h2, h3]
theorem sg_L_of2 {G : sg_G} {n i : Nat} {lsB : Array Slot} {ls : List (Option Value)} {v : Value} (hlt : i < ls.length) (ho : ∀ w, i ≠ 0 → ls[i - 1]? = some (some w) → (sg_v G w).category = 1)
    (h : lv_has lsB n ((i, sg_v G v) :: ((sg_pr ls 0).map fun q => (q.1, sg_v G q.2)).filter (fun q => !(q.1 == i) && (!(q.1 == i + 1) && !(q.1 + 1 == i && q.2.category == 2))))) : sg_L G n lsB ((ls.set i (some v)).set (i + 1) none) := by
  refine ⟨h.1, h.2.1, fun j w hj => ?_⟩
  rw [List.getElem?_set] at hj
  by_cases e1 : i + 1 = j
  · subst e1
    rw [if_pos rfl] at hj
    split at hj <;> simp at hj
  rw [if_neg e1, List.getElem?_set] at hj
  by_cases e : i = j
  · subst e
    rw [if_pos rfl, if_pos hlt] at hj
    cases hj
    exact h.2.2 (i, sg_v G v) List.mem_cons_self
  · rw [if_neg e] at hj
    have h1 := sg_pr_in ls 0 j w hj
    rw [Nat.zero_add] at h1
    refine h.2.2 (j, sg_v G w) (List.mem_cons_of_mem _ (List.mem_filter.mpr ⟨List.mem_map.mpr ⟨(j, w), h1, rfl⟩, ?_⟩))
    have h2 : ¬ (j == i) = true := by simp; exact fun q => e q.symm
    have h4 : ¬ (j == i + 1) = true := by simp; exact fun q => e1 q.symm
    have h3 : ¬ ((j + 1 == i && (sg_v G w).category == 2) = true) := by
      intro q
      simp at q
      have := ho w (by omega) (by rw [← q.1]; exact hj)
      omega
    simp only [Bool.not_eq_true] at h2 h3 h4
    simp [h2, h3, h4]
/-- what a store asks of the locals ahead of its place: an int, or nothing known, or a reference of ours -/
def sg_o1 : List (Option Value) → Nat → Bool
  | _, 0 => true
  | ls, i + 1 => match ls[i]? with
    | some (some (.int _)) => true
    | some (some (.ref k)) => k != 140
    | some (some _) => false
    | _ => true
theorem sg_o1_ok {G : sg_G} {ls : List (Option Value)} {i : Nat} (h : sg_o1 ls i = true) : ∀ w, i ≠ 0 → ls[i - 1]? = some (some w) → (sg_v G w).category = 1 := by
  intro w hi hw
  cases i with
  | zero => exact absurd rfl hi
  | succ i =>
    simp only [Nat.add_sub_cancel] at hw
    simp only [sg_o1, hw] at h
    cases w <;> simp at h
    · rfl
    · rw [sg_v_ref G h]; rfl

theorem ev_istore_n {k0 : Fin 4} {i : Nat} {x : Int32} (hd : Ins M pc nx 1 (.istore_n k0)) (hi : (k0 : Nat) = i) (hn : i < M.2.2.1) (hlt : i < ls.length) (ho : sg_o1 ls i = true) {ls2 : List (Option Value)} (h2 : (ls.set i (some (.int x))) = ls2) (k : Ev M R nx ls2 st σ emb X) : Ev M R pc ls (.int x :: st) σ emb X := by
  intro a ha l G p e s m args below meth c H locs lsA cells slots Q C hH hL hc hF
  obtain ⟨h1, rfl⟩ := hd
  subst h2
  exact lv_istore_n C.1 C.2.1 h1 hi (sg_L_has hL) hn rfl (fun lsB hB => k a ha l G p e s m args below meth c H locs lsB cells slots Q C hH (sg_L_of1 hlt (sg_o1_ok ho) hB) hc hF)

theorem ev_istore {i : Nat} {x : Int32} (hd : Ins M pc nx 2 (.istore i)) (hn : i < M.2.2.1) (hlt : i < ls.length) (ho : sg_o1 ls i = true) {ls2 : List (Option Value)} (h2 : (ls.set i (some (.int x))) = ls2) (k : Ev M R nx ls2 st σ emb X) : Ev M R pc ls (.int x :: st) σ emb X := by
  intro a ha l G p e s m args below meth c H locs lsA cells slots Q C hH hL hc hF
  obtain ⟨h1, rfl⟩ := hd
  subst h2
  exact lv_istore C.1 C.2.1 h1 (sg_L_has hL) hn rfl (fun lsB hB => k a ha l G p e s m args below meth c H locs lsB cells slots Q C hH (sg_L_of1 hlt (sg_o1_ok ho) hB) hc hF)

theorem ev_lstore_n {k0 : Fin 4} {i : Nat} {x : Int64} (hd : Ins M pc nx 1 (.lstore_n k0)) (hi : (k0 : Nat) = i) (hn : i + 1 < M.2.2.1) (hlt : i < ls.length) (ho : sg_o1 ls i = true) {ls2 : List (Option Value)} (h2 : ((ls.set i (some (.long x))).set (i + 1) none) = ls2) (k : Ev M R nx ls2 st σ emb X) : Ev M R pc ls (.long x :: st) σ emb X := by
  intro a ha l G p e s m args below meth c H locs lsA cells slots Q C hH hL hc hF
  obtain ⟨h1, rfl⟩ := hd
  subst h2
  exact lv_lstore_n C.1 C.2.1 h1 hi (sg_L_has hL) hn rfl (fun lsB hB => k a ha l G p e s m args below meth c H locs lsB cells slots Q C hH (sg_L_of2 hlt (sg_o1_ok ho) hB) hc hF)

theorem ev_lstore {i : Nat} {x : Int64} (hd : Ins M pc nx 2 (.lstore i)) (hn : i + 1 < M.2.2.1) (hlt : i < ls.length) (ho : sg_o1 ls i = true) {ls2 : List (Option Value)} (h2 : ((ls.set i (some (.long x))).set (i + 1) none) = ls2) (k : Ev M R nx ls2 st σ emb X) : Ev M R pc ls (.long x :: st) σ emb X := by
  intro a ha l G p e s m args below meth c H locs lsA cells slots Q C hH hL hc hF
  obtain ⟨h1, rfl⟩ := hd
  subst h2
  exact lv_lstore C.1 C.2.1 h1 (sg_L_has hL) hn rfl (fun lsB hB => k a ha l G p e s m args below meth c H locs lsB cells slots Q C hH (sg_L_of2 hlt (sg_o1_ok ho) hB) hc hF)

theorem ev_astore_n {k0 : Fin 4} {i : Nat} {x : Nat} (hd : Ins M pc nx 1 (.astore_n k0)) (hi : (k0 : Nat) = i) (hk : x ≠ 140) (hn : i < M.2.2.1) (hlt : i < ls.length) (ho : sg_o1 ls i = true) {ls2 : List (Option Value)} (h2 : (ls.set i (some (.ref x))) = ls2) (k : Ev M R nx ls2 st σ emb X) : Ev M R pc ls (.ref x :: st) σ emb X := by
  intro a ha l G p e s m args below meth c H locs lsA cells slots Q C hH hL hc hF
  obtain ⟨h1, rfl⟩ := hd
  subst h2
  rw [List.map_cons, sg_v_ref G hk]
  exact lv_astore_n C.1 C.2.1 h1 hi (sg_L_has hL) hn rfl (fun lsB hB => k a ha l G p e s m args below meth c H locs lsB cells slots Q C hH (sg_L_of1 hlt (sg_o1_ok ho) (by rw [sg_v_ref G hk]; exact hB)) hc hF)

theorem ev_astore {i : Nat} {x : Nat} (hd : Ins M pc nx 2 (.astore i)) (hk : x ≠ 140) (hn : i < M.2.2.1) (hlt : i < ls.length) (ho : sg_o1 ls i = true) {ls2 : List (Option Value)} (h2 : (ls.set i (some (.ref x))) = ls2) (k : Ev M R nx ls2 st σ emb X) : Ev M R pc ls (.ref x :: st) σ emb X := by
  intro a ha l G p e s m args below meth c H locs lsA cells slots Q C hH hL hc hF
  obtain ⟨h1, rfl⟩ := hd
  subst h2
  rw [List.map_cons, sg_v_ref G hk]
  exact lv_astore C.1 C.2.1 h1 (sg_L_has hL) hn rfl (fun lsB hB => k a ha l G p e s m args below meth c H locs lsB cells slots Q C hH (sg_L_of1 hlt (sg_o1_ok ho) (by rw [sg_v_ref G hk]; exact hB)) hc hF)

theorem ev_iinc {i : Nat} {n : Int} {x v : Int32} (hd : Ins M pc nx 3 (.iinc i n)) (hl : ls[i]? = some (some (.int x))) (hv : x + Int32.ofInt n = v) (hn : i < M.2.2.1) (ho : sg_o1 ls i = true) {ls2 : List (Option Value)} (h2 : (ls.set i (some (.int v))) = ls2) (k : Ev M R nx ls2 st σ emb X) : Ev M R pc ls st σ emb X := by
  intro a ha l G p e s m args below meth c H locs lsA cells slots Q C hH hL hc hF
  obtain ⟨h1, rfl⟩ := hd
  subst h2
  have hlt : i < ls.length := (List.getElem?_eq_some_iff.mp hl).1
  have hm := sg_pr_in ls 0 i _ hl
  rw [Nat.zero_add] at hm
  have hm2 : (i, Value.int x) ∈ (sg_pr ls 0).map fun q => (q.1, sg_v G q.2) := List.mem_map.mpr ⟨_, hm, rfl⟩
  obtain ⟨k0, hk0⟩ := List.getElem?_of_mem hm2
  exact lv_iinc C.1 C.2.1 h1 (sg_L_has hL) (k := k0) hk0 hv hn rfl (fun lsB hB => k a ha l G p e s m args below meth c H locs lsB cells slots Q C hH (sg_L_of1 hlt (sg_o1_ok ho) hB) hc hF)

theorem ev_iadd {x y : Int32} (hd : Ins M pc nx 1 .iadd) (k : Ev M R nx ls (.int (x + y) :: st) σ emb X) : Ev M R pc ls (.int y :: .int x :: st) σ emb X := by
  intro a ha l G p e s m args below meth c H locs lsA cells slots Q C hH hL hc hF
  obtain ⟨h1, rfl⟩ := hd
  exact lv_iadd C.1 C.2.1 h1 (k a ha l G p e s m args below meth c H locs lsA cells slots Q C hH hL hc hF)

theorem ev_isub {x y : Int32} (hd : Ins M pc nx 1 .isub) (k : Ev M R nx ls (.int (x - y) :: st) σ emb X) : Ev M R pc ls (.int y :: .int x :: st) σ emb X := by
  intro a ha l G p e s m args below meth c H locs lsA cells slots Q C hH hL hc hF
  obtain ⟨h1, rfl⟩ := hd
  exact lv_isub C.1 C.2.1 h1 (k a ha l G p e s m args below meth c H locs lsA cells slots Q C hH hL hc hF)

theorem ev_imul {x y : Int32} (hd : Ins M pc nx 1 .imul) (k : Ev M R nx ls (.int (x * y) :: st) σ emb X) : Ev M R pc ls (.int y :: .int x :: st) σ emb X := by
  intro a ha l G p e s m args below meth c H locs lsA cells slots Q C hH hL hc hF
  obtain ⟨h1, rfl⟩ := hd
  exact lv_imul C.1 C.2.1 h1 (k a ha l G p e s m args below meth c H locs lsA cells slots Q C hH hL hc hF)

theorem ev_iand {x y : Int32} (hd : Ins M pc nx 1 .iand) (k : Ev M R nx ls (.int (x &&& y) :: st) σ emb X) : Ev M R pc ls (.int y :: .int x :: st) σ emb X := by
  intro a ha l G p e s m args below meth c H locs lsA cells slots Q C hH hL hc hF
  obtain ⟨h1, rfl⟩ := hd
  exact lv_iand C.1 C.2.1 h1 (k a ha l G p e s m args below meth c H locs lsA cells slots Q C hH hL hc hF)

theorem ev_ior {x y : Int32} (hd : Ins M pc nx 1 .ior) (k : Ev M R nx ls (.int (x ||| y) :: st) σ emb X) : Ev M R pc ls (.int y :: .int x :: st) σ emb X := by
  intro a ha l G p e s m args below meth c H locs lsA cells slots Q C hH hL hc hF
  obtain ⟨h1, rfl⟩ := hd
  exact lv_ior C.1 C.2.1 h1 (k a ha l G p e s m args below meth c H locs lsA cells slots Q C hH hL hc hF)

theorem ev_ixor {x y : Int32} (hd : Ins M pc nx 1 .ixor) (k : Ev M R nx ls (.int (x ^^^ y) :: st) σ emb X) : Ev M R pc ls (.int y :: .int x :: st) σ emb X := by
  intro a ha l G p e s m args below meth c H locs lsA cells slots Q C hH hL hc hF
  obtain ⟨h1, rfl⟩ := hd
  exact lv_ixor C.1 C.2.1 h1 (k a ha l G p e s m args below meth c H locs lsA cells slots Q C hH hL hc hF)

theorem ev_ishl {x y : Int32} (hd : Ins M pc nx 1 .ishl) (k : Ev M R nx ls (.int (x <<< (y &&& 31)) :: st) σ emb X) : Ev M R pc ls (.int y :: .int x :: st) σ emb X := by
  intro a ha l G p e s m args below meth c H locs lsA cells slots Q C hH hL hc hF
  obtain ⟨h1, rfl⟩ := hd
  exact lv_ishl C.1 C.2.1 h1 (k a ha l G p e s m args below meth c H locs lsA cells slots Q C hH hL hc hF)

theorem ev_ishr {x y : Int32} (hd : Ins M pc nx 1 .ishr) (k : Ev M R nx ls (.int (x >>> (y &&& 31)) :: st) σ emb X) : Ev M R pc ls (.int y :: .int x :: st) σ emb X := by
  intro a ha l G p e s m args below meth c H locs lsA cells slots Q C hH hL hc hF
  obtain ⟨h1, rfl⟩ := hd
  exact lv_ishr C.1 C.2.1 h1 (k a ha l G p e s m args below meth c H locs lsA cells slots Q C hH hL hc hF)

theorem ev_iushr {x y : Int32} (hd : Ins M pc nx 1 .iushr) (k : Ev M R nx ls (.int (x.toUInt32 >>> (y.toUInt32 &&& Int32.toUInt32 31)).toInt32 :: st) σ emb X) : Ev M R pc ls (.int y :: .int x :: st) σ emb X := by
  intro a ha l G p e s m args below meth c H locs lsA cells slots Q C hH hL hc hF
  obtain ⟨h1, rfl⟩ := hd
  exact lv_iushr C.1 C.2.1 h1 rfl (k a ha l G p e s m args below meth c H locs lsA cells slots Q C hH hL hc hF)

theorem ev_ineg {x : Int32} (hd : Ins M pc nx 1 .ineg) (k : Ev M R nx ls (.int (-x) :: st) σ emb X) : Ev M R pc ls (.int x :: st) σ emb X := by
  intro a ha l G p e s m args below meth c H locs lsA cells slots Q C hH hL hc hF
  obtain ⟨h1, rfl⟩ := hd
  exact lv_ineg C.1 C.2.1 h1 (k a ha l G p e s m args below meth c H locs lsA cells slots Q C hH hL hc hF)

theorem ev_ladd {x y : Int64} (hd : Ins M pc nx 1 .ladd) (k : Ev M R nx ls (.long (x + y) :: st) σ emb X) : Ev M R pc ls (.long y :: .long x :: st) σ emb X := by
  intro a ha l G p e s m args below meth c H locs lsA cells slots Q C hH hL hc hF
  obtain ⟨h1, rfl⟩ := hd
  exact lv_ladd C.1 C.2.1 h1 (k a ha l G p e s m args below meth c H locs lsA cells slots Q C hH hL hc hF)

theorem ev_lsub {x y : Int64} (hd : Ins M pc nx 1 .lsub) (k : Ev M R nx ls (.long (x - y) :: st) σ emb X) : Ev M R pc ls (.long y :: .long x :: st) σ emb X := by
  intro a ha l G p e s m args below meth c H locs lsA cells slots Q C hH hL hc hF
  obtain ⟨h1, rfl⟩ := hd
  exact lv_lsub C.1 C.2.1 h1 (k a ha l G p e s m args below meth c H locs lsA cells slots Q C hH hL hc hF)

theorem ev_lmul {x y : Int64} (hd : Ins M pc nx 1 .lmul) (k : Ev M R nx ls (.long (x * y) :: st) σ emb X) : Ev M R pc ls (.long y :: .long x :: st) σ emb X := by
  intro a ha l G p e s m args below meth c H locs lsA cells slots Q C hH hL hc hF
  obtain ⟨h1, rfl⟩ := hd
  exact lv_lmul C.1 C.2.1 h1 (k a ha l G p e s m args below meth c H locs lsA cells slots Q C hH hL hc hF)

theorem ev_i2l {x : Int32} (hd : Ins M pc nx 1 .i2l) (k : Ev M R nx ls (.long x.toInt64 :: st) σ emb X) : Ev M R pc ls (.int x :: st) σ emb X := by
  intro a ha l G p e s m args below meth c H locs lsA cells slots Q C hH hL hc hF
  obtain ⟨h1, rfl⟩ := hd
  exact lv_i2l C.1 C.2.1 h1 rfl (k a ha l G p e s m args below meth c H locs lsA cells slots Q C hH hL hc hF)

theorem ev_i2b {x : Int32} (hd : Ins M pc nx 1 .i2b) (k : Ev M R nx ls (.int x.toInt8.toInt32 :: st) σ emb X) : Ev M R pc ls (.int x :: st) σ emb X := by
  intro a ha l G p e s m args below meth c H locs lsA cells slots Q C hH hL hc hF
  obtain ⟨h1, rfl⟩ := hd
  exact lv_i2b C.1 C.2.1 h1 rfl (k a ha l G p e s m args below meth c H locs lsA cells slots Q C hH hL hc hF)

theorem ev_i2s {x : Int32} (hd : Ins M pc nx 1 .i2s) (k : Ev M R nx ls (.int x.toInt16.toInt32 :: st) σ emb X) : Ev M R pc ls (.int x :: st) σ emb X := by
  intro a ha l G p e s m args below meth c H locs lsA cells slots Q C hH hL hc hF
  obtain ⟨h1, rfl⟩ := hd
  exact lv_i2s C.1 C.2.1 h1 rfl (k a ha l G p e s m args below meth c H locs lsA cells slots Q C hH hL hc hF)

theorem ev_i2c {x : Int32} (hd : Ins M pc nx 1 .i2c) (k : Ev M R nx ls (.int (x.toUInt32 % 65536).toInt32 :: st) σ emb X) : Ev M R pc ls (.int x :: st) σ emb X := by
  intro a ha l G p e s m args below meth c H locs lsA cells slots Q C hH hL hc hF
  obtain ⟨h1, rfl⟩ := hd
  exact lv_i2c C.1 C.2.1 h1 rfl (k a ha l G p e s m args below meth c H locs lsA cells slots Q C hH hL hc hF)

theorem ev_lcmp {x y : Int64} (hd : Ins M pc nx 1 .lcmp) (k : Ev M R nx ls (.int (lg_cmp x y) :: st) σ emb X) : Ev M R pc ls (.long y :: .long x :: st) σ emb X := by
  intro a ha l G p e s m args below meth c H locs lsA cells slots Q C hH hL hc hF
  obtain ⟨h1, rfl⟩ := hd
  exact W.lcmp C.1 C.2.1 h1 (k a ha l G p e s m args below meth c H locs lsA cells slots Q C hH hL hc hF)

theorem ev_idiv {x y : Int32} (hd : Ins M pc nx 1 .idiv) (k : Ev M R nx ls (.int (x / y) :: st) σ emb X) : Ev M R pc ls (.int y :: .int x :: st) σ emb (if y = 0 then none else X) := by
  intro a ha l G p e s m args below meth c H locs lsA cells slots Q C hH hL hc hF
  obtain ⟨h1, rfl⟩ := hd
  by_cases hy : y = 0
  · rw [if_pos hy] at ha; cases ha
  · rw [if_neg hy] at ha
    exact lv_idiv C.1 C.2.1 h1 hy (k a ha l G p e s m args below meth c H locs lsA cells slots Q C hH hL hc hF)

theorem ev_idivK {x y : Int32} (hd : Ins M pc nx 1 .idiv) (hy : ¬ y = 0) (k : Ev M R nx ls (.int (x / y) :: st) σ emb X) : Ev M R pc ls (.int y :: .int x :: st) σ emb X := by
  intro a ha l G p e s m args below meth c H locs lsA cells slots Q C hH hL hc hF
  obtain ⟨h1, rfl⟩ := hd
  exact lv_idiv C.1 C.2.1 h1 hy (k a ha l G p e s m args below meth c H locs lsA cells slots Q C hH hL hc hF)

theorem ev_irem {x y : Int32} (hd : Ins M pc nx 1 .irem) (k : Ev M R nx ls (.int (x - x / y * y) :: st) σ emb X) : Ev M R pc ls (.int y :: .int x :: st) σ emb (if y = 0 then none else X) := by
  intro a ha l G p e s m args below meth c H locs lsA cells slots Q C hH hL hc hF
  obtain ⟨h1, rfl⟩ := hd
  by_cases hy : y = 0
  · rw [if_pos hy] at ha; cases ha
  · rw [if_neg hy] at ha
    exact lv_irem C.1 C.2.1 h1 hy (k a ha l G p e s m args below meth c H locs lsA cells slots Q C hH hL hc hF)

theorem ev_iremK {x y : Int32} (hd : Ins M pc nx 1 .irem) (hy : ¬ y = 0) (k : Ev M R nx ls (.int (x - x / y * y) :: st) σ emb X) : Ev M R pc ls (.int y :: .int x :: st) σ emb X := by
  intro a ha l G p e s m args below meth c H locs lsA cells slots Q C hH hL hc hF
  obtain ⟨h1, rfl⟩ := hd
  exact lv_irem C.1 C.2.1 h1 hy (k a ha l G p e s m args below meth c H locs lsA cells slots Q C hH hL hc hF)

theorem ev_dupI {x : Int32} (hd : Ins M pc nx 1 .dup) (k : Ev M R nx ls (.int x :: .int x :: st) σ emb X) : Ev M R pc ls (.int x :: st) σ emb X := by
  intro a ha l G p e s m args below meth c H locs lsA cells slots Q C hH hL hc hF
  obtain ⟨h1, rfl⟩ := hd
  exact lv_dup C.1 C.2.1 h1 rfl (k a ha l G p e s m args below meth c H locs lsA cells slots Q C hH hL hc hF)

theorem ev_dupR {x : Nat} (hd : Ins M pc nx 1 .dup) (hx : x ≠ 140) (k : Ev M R nx ls (.ref x :: .ref x :: st) σ emb X) : Ev M R pc ls (.ref x :: st) σ emb X := by
  intro a ha l G p e s m args below meth c H locs lsA cells slots Q C hH hL hc hF
  obtain ⟨h1, rfl⟩ := hd
  exact lv_dup C.1 C.2.1 h1 (by rw [sg_v_ref G hx]; rfl) (k a ha l G p e s m args below meth c H locs lsA cells slots Q C hH hL hc hF)

theorem ev_popI {x : Int32} (hd : Ins M pc nx 1 .pop) (k : Ev M R nx ls st σ emb X) : Ev M R pc ls (.int x :: st) σ emb X := by
  intro a ha l G p e s m args below meth c H locs lsA cells slots Q C hH hL hc hF
  obtain ⟨h1, rfl⟩ := hd
  exact lv_pop C.1 C.2.1 h1 rfl (k a ha l G p e s m args below meth c H locs lsA cells slots Q C hH hL hc hF)

theorem ev_dup2 {x : Int32} {y : Nat} (hd : Ins M pc nx 1 .dup2) (hy : y ≠ 140) (k : Ev M R nx ls (.int x :: .ref y :: .int x :: .ref y :: st) σ emb X) : Ev M R pc ls (.int x :: .ref y :: st) σ emb X := by
  intro a ha l G p e s m args below meth c H locs lsA cells slots Q C hH hL hc hF
  obtain ⟨h1, rfl⟩ := hd
  exact lv_dup2_11 C.1 C.2.1 h1 rfl (by rw [sg_v_ref G hy]; rfl) (k a ha l G p e s m args below meth c H locs lsA cells slots Q C hH hL hc hF)

theorem ev_goto (hd : InB M pc nx tgt .goto) (k : Ev M R tgt ls st σ emb X) : Ev M R pc ls st σ emb X := by
  intro a ha l G p e s m args below meth c H locs lsA cells slots Q C hH hL hc hF
  obtain ⟨h1, -⟩ := hd
  exact lv_goto (tgt := tgt) C.1 C.2.1 h1 (by omega) (k a ha l G p e s m args below meth c H locs lsA cells slots Q C hH hL hc hF)

theorem ev_icmp_eq {x y : Int32} (hd : InB M pc nx tgt (.if_icmp .eq)) (kt : Ev M R tgt ls st σ emb X) (kf : Ev M R nx ls st σ emb Y) : Ev M R pc ls (.int y :: .int x :: st) σ emb (if x = y then X else Y) := by
  intro a ha l G p e s m args below meth c H locs lsA cells slots Q C hH hL hc hF
  obtain ⟨h1, rfl⟩ := hd
  refine lv_icmp_eq (tgt := tgt) C.1 C.2.1 h1 (by omega) (fun hP => ?_) (fun hP => ?_)
  · have hP : x = y := hP
    rw [if_pos hP] at ha
    exact kt a ha l G p e s m args below meth c H locs lsA cells slots Q C hH hL hc hF
  · have hP : ¬ x = y := hP
    rw [if_neg hP] at ha
    exact kf a ha l G p e s m args below meth c H locs lsA cells slots Q C hH hL hc hF

theorem ev_icmp_ne {x y : Int32} (hd : InB M pc nx tgt (.if_icmp .ne)) (kf : Ev M R nx ls st σ emb X) (kt : Ev M R tgt ls st σ emb Y) : Ev M R pc ls (.int y :: .int x :: st) σ emb (if x = y then X else Y) := by
  intro a ha l G p e s m args below meth c H locs lsA cells slots Q C hH hL hc hF
  obtain ⟨h1, rfl⟩ := hd
  refine lv_icmp_ne (tgt := tgt) C.1 C.2.1 h1 (by omega) (fun hP => ?_) (fun hP => ?_)
  · have hP : ¬ x = y := hP
    rw [if_neg hP] at ha
    exact kt a ha l G p e s m args below meth c H locs lsA cells slots Q C hH hL hc hF
  · have hP : x = y := hP
    rw [if_pos hP] at ha
    exact kf a ha l G p e s m args below meth c H locs lsA cells slots Q C hH hL hc hF

theorem ev_icmp_lt {x y : Int32} (hd : InB M pc nx tgt (.if_icmp .lt)) (kt : Ev M R tgt ls st σ emb X) (kf : Ev M R nx ls st σ emb Y) : Ev M R pc ls (.int y :: .int x :: st) σ emb (if x < y then X else Y) := by
  intro a ha l G p e s m args below meth c H locs lsA cells slots Q C hH hL hc hF
  obtain ⟨h1, rfl⟩ := hd
  refine lv_icmp_lt (tgt := tgt) C.1 C.2.1 h1 (by omega) (fun hP => ?_) (fun hP => ?_)
  · have hP : x < y := hP
    rw [if_pos hP] at ha
    exact kt a ha l G p e s m args below meth c H locs lsA cells slots Q C hH hL hc hF
  · have hP : ¬ x < y := hP
    rw [if_neg hP] at ha
    exact kf a ha l G p e s m args below meth c H locs lsA cells slots Q C hH hL hc hF

theorem ev_icmp_ge {x y : Int32} (hd : InB M pc nx tgt (.if_icmp .ge)) (kf : Ev M R nx ls st σ emb X) (kt : Ev M R tgt ls st σ emb Y) : Ev M R pc ls (.int y :: .int x :: st) σ emb (if x < y then X else Y) := by
  intro a ha l G p e s m args below meth c H locs lsA cells slots Q C hH hL hc hF
  obtain ⟨h1, rfl⟩ := hd
  refine lv_icmp_ge (tgt := tgt) C.1 C.2.1 h1 (by omega) (fun hP => ?_) (fun hP => ?_)
  · have hP : ¬ x < y := Int32.not_lt.mpr hP
    rw [if_neg hP] at ha
    exact kt a ha l G p e s m args below meth c H locs lsA cells slots Q C hH hL hc hF
  · have hP : x < y := Int32.not_le.mp hP
    rw [if_pos hP] at ha
    exact kf a ha l G p e s m args below meth c H locs lsA cells slots Q C hH hL hc hF

theorem ev_icmp_gt {x y : Int32} (hd : InB M pc nx tgt (.if_icmp .gt)) (kt : Ev M R tgt ls st σ emb X) (kf : Ev M R nx ls st σ emb Y) : Ev M R pc ls (.int y :: .int x :: st) σ emb (if y < x then X else Y) := by
  intro a ha l G p e s m args below meth c H locs lsA cells slots Q C hH hL hc hF
  obtain ⟨h1, rfl⟩ := hd
  refine lv_icmp_gt (tgt := tgt) C.1 C.2.1 h1 (by omega) (fun hP => ?_) (fun hP => ?_)
  · have hP : y < x := hP
    rw [if_pos hP] at ha
    exact kt a ha l G p e s m args below meth c H locs lsA cells slots Q C hH hL hc hF
  · have hP : ¬ y < x := hP
    rw [if_neg hP] at ha
    exact kf a ha l G p e s m args below meth c H locs lsA cells slots Q C hH hL hc hF

theorem ev_icmp_le {x y : Int32} (hd : InB M pc nx tgt (.if_icmp .le)) (kf : Ev M R nx ls st σ emb X) (kt : Ev M R tgt ls st σ emb Y) : Ev M R pc ls (.int y :: .int x :: st) σ emb (if y < x then X else Y) := by
  intro a ha l G p e s m args below meth c H locs lsA cells slots Q C hH hL hc hF
  obtain ⟨h1, rfl⟩ := hd
  refine lv_icmp_le (tgt := tgt) C.1 C.2.1 h1 (by omega) (fun hP => ?_) (fun hP => ?_)
  · have hP : ¬ y < x := Int32.not_lt.mpr hP
    rw [if_neg hP] at ha
    exact kt a ha l G p e s m args below meth c H locs lsA cells slots Q C hH hL hc hF
  · have hP : y < x := Int32.not_le.mp hP
    rw [if_pos hP] at ha
    exact kf a ha l G p e s m args below meth c H locs lsA cells slots Q C hH hL hc hF

theorem ev_if_eq {x : Int32} (hd : InB M pc nx tgt (.ifCond .eq)) (kt : Ev M R tgt ls st σ emb X) (kf : Ev M R nx ls st σ emb Y) : Ev M R pc ls (.int x :: st) σ emb (if x = 0 then X else Y) := by
  intro a ha l G p e s m args below meth c H locs lsA cells slots Q C hH hL hc hF
  obtain ⟨h1, rfl⟩ := hd
  refine lv_if_eq (tgt := tgt) C.1 C.2.1 h1 (by omega) (fun hP => ?_) (fun hP => ?_)
  · have hP : x = 0 := hP
    rw [if_pos hP] at ha
    exact kt a ha l G p e s m args below meth c H locs lsA cells slots Q C hH hL hc hF
  · have hP : ¬ x = 0 := hP
    rw [if_neg hP] at ha
    exact kf a ha l G p e s m args below meth c H locs lsA cells slots Q C hH hL hc hF

theorem ev_if_ne {x : Int32} (hd : InB M pc nx tgt (.ifCond .ne)) (kf : Ev M R nx ls st σ emb X) (kt : Ev M R tgt ls st σ emb Y) : Ev M R pc ls (.int x :: st) σ emb (if x = 0 then X else Y) := by
  intro a ha l G p e s m args below meth c H locs lsA cells slots Q C hH hL hc hF
  obtain ⟨h1, rfl⟩ := hd
  refine lv_if_ne (tgt := tgt) C.1 C.2.1 h1 (by omega) (fun hP => ?_) (fun hP => ?_)
  · have hP : ¬ x = 0 := hP
    rw [if_neg hP] at ha
    exact kt a ha l G p e s m args below meth c H locs lsA cells slots Q C hH hL hc hF
  · have hP : x = 0 := hP
    rw [if_pos hP] at ha
    exact kf a ha l G p e s m args below meth c H locs lsA cells slots Q C hH hL hc hF

theorem ev_if_lt {x : Int32} (hd : InB M pc nx tgt (.ifCond .lt)) (kt : Ev M R tgt ls st σ emb X) (kf : Ev M R nx ls st σ emb Y) : Ev M R pc ls (.int x :: st) σ emb (if x < 0 then X else Y) := by
  intro a ha l G p e s m args below meth c H locs lsA cells slots Q C hH hL hc hF
  obtain ⟨h1, rfl⟩ := hd
  refine lv_if_lt (tgt := tgt) C.1 C.2.1 h1 (by omega) (fun hP => ?_) (fun hP => ?_)
  · have hP : x < 0 := hP
    rw [if_pos hP] at ha
    exact kt a ha l G p e s m args below meth c H locs lsA cells slots Q C hH hL hc hF
  · have hP : ¬ x < 0 := hP
    rw [if_neg hP] at ha
    exact kf a ha l G p e s m args below meth c H locs lsA cells slots Q C hH hL hc hF

theorem ev_if_ge {x : Int32} (hd : InB M pc nx tgt (.ifCond .ge)) (kf : Ev M R nx ls st σ emb X) (kt : Ev M R tgt ls st σ emb Y) : Ev M R pc ls (.int x :: st) σ emb (if x < 0 then X else Y) := by
  intro a ha l G p e s m args below meth c H locs lsA cells slots Q C hH hL hc hF
  obtain ⟨h1, rfl⟩ := hd
  refine lv_if_ge (tgt := tgt) C.1 C.2.1 h1 (by omega) (fun hP => ?_) (fun hP => ?_)
  · have hP : ¬ x < 0 := Int32.not_lt.mpr hP
    rw [if_neg hP] at ha
    exact kt a ha l G p e s m args below meth c H locs lsA cells slots Q C hH hL hc hF
  · have hP : x < 0 := Int32.not_le.mp hP
    rw [if_pos hP] at ha
    exact kf a ha l G p e s m args below meth c H locs lsA cells slots Q C hH hL hc hF

theorem ev_if_gt {x : Int32} (hd : InB M pc nx tgt (.ifCond .gt)) (kt : Ev M R tgt ls st σ emb X) (kf : Ev M R nx ls st σ emb Y) : Ev M R pc ls (.int x :: st) σ emb (if 0 < x then X else Y) := by
  intro a ha l G p e s m args below meth c H locs lsA cells slots Q C hH hL hc hF
  obtain ⟨h1, rfl⟩ := hd
  refine lv_if_gt (tgt := tgt) C.1 C.2.1 h1 (by omega) (fun hP => ?_) (fun hP => ?_)
  · have hP : 0 < x := hP
    rw [if_pos hP] at ha
    exact kt a ha l G p e s m args below meth c H locs lsA cells slots Q C hH hL hc hF
  · have hP : ¬ 0 < x := hP
    rw [if_neg hP] at ha
    exact kf a ha l G p e s m args below meth c H locs lsA cells slots Q C hH hL hc hF

theorem ev_if_le {x : Int32} (hd : InB M pc nx tgt (.ifCond .le)) (kf : Ev M R nx ls st σ emb X) (kt : Ev M R tgt ls st σ emb Y) : Ev M R pc ls (.int x :: st) σ emb (if 0 < x then X else Y) := by
  intro a ha l G p e s m args below meth c H locs lsA cells slots Q C hH hL hc hF
  obtain ⟨h1, rfl⟩ := hd
  refine lv_if_le (tgt := tgt) C.1 C.2.1 h1 (by omega) (fun hP => ?_) (fun hP => ?_)
  · have hP : ¬ 0 < x := Int32.not_lt.mpr hP
    rw [if_neg hP] at ha
    exact kt a ha l G p e s m args below meth c H locs lsA cells slots Q C hH hL hc hF
  · have hP : 0 < x := Int32.not_le.mp hP
    rw [if_pos hP] at ha
    exact kf a ha l G p e s m args below meth c H locs lsA cells slots Q C hH hL hc hF

theorem ev_pos {P : Prop} [Decidable P] {ls : List (Option Value)} {st : List Value} (hP : P) (k : Ev M R pc ls st σ emb (if P then X else Y)) : Ev M R pc ls st σ emb X := by rwa [if_pos hP] at k

theorem ev_neg {P : Prop} [Decidable P] {ls : List (Option Value)} {st : List Value} (hP : ¬ P) (k : Ev M R pc ls st σ emb (if P then X else Y)) : Ev M R pc ls st σ emb Y := by rwa [if_neg hP] at k

/-- a field's link: own class, pool entry, class in vwCl, field -/
def sg_FL (own : String) (idx ci j : Nat) : Prop := ∃ (C : String) (T : u_T) (N : Nat), vwCl[ci]? = some (C, T, N) ∧ (∀ w ∈ u_ws C T N, w ∈ tw) ∧ j < N ∧ Cond.fieldLink own idx (T j).1 (T j).2.1 (T j).2.2.1 ∈ tw
/-- and that it may be written, with its type -/
def sg_FP (ci j : Nat) (ty : FieldType) : Prop := ∃ (C : String) (T : u_T) (N : Nat) (ty0 : Nat → FieldType), vwCl[ci]? = some (C, T, N) ∧ (∀ k, k < N → parseFieldDescriptor (T k).2.2.1 = some (ty0 k)) ∧ (∀ a, a < N → ∀ b, b < N → a ≠ b → (T a).2.1 ≠ (T b).2.1) ∧ (T j).2.2.2 = false ∧ ty0 j = ty
theorem ev_getI {k0 idx : Nat} (ci j : Nat) {fl : List (Option Nat)} (hd : Ins M pc nx 3 (.getfield idx)) (hf : sg_FL M.1 idx ci j) (hO : sg_O k0 = some (ci, fl)) (hj : fl[j]? = some none) (k : Ev M R nx ls (.int (σ k0 j) :: st) σ emb X) : Ev M R pc ls (.ref k0 :: st) σ emb X := by
  intro a ha l G p e s m args below meth c H locs lsA cells slots Q C hH hL hc hF
  obtain ⟨h1, rfl⟩ := hd
  obtain ⟨C0, T, N, f1, f2, f3, f4⟩ := hf
  have hk := sg_O_lt hO
  rw [List.map_cons, sg_v_ref G (by omega)]
  refine va_get C.1 C.2.1 C.2.2.2.2.1 f2 C.2.2.2.1 C.2.2.2.2.2.1 hH.1 k0 (by rw [sg_W_at hk, sg_E_obj hO]) f1 j f3 (C.2.2.2.2.1 _ f4) (fun _ h => h) (v := .int (σ k0 j)) ?_ h1 (k a ha l G p e s m args below meth c H locs lsA cells slots Q C hH hL hc hF)
  rw [sg_fl_int _ _ fl 0 j hj, Nat.zero_add]
theorem ev_getR {k0 k1 idx : Nat} (ci j : Nat) {fl : List (Option Nat)} (hd : Ins M pc nx 3 (.getfield idx)) (hf : sg_FL M.1 idx ci j) (hO : sg_O k0 = some (ci, fl)) (hj : fl[j]? = some (some k1)) (h140 : k1 ≠ 140) (k : Ev M R nx ls (.ref k1 :: st) σ emb X) : Ev M R pc ls (.ref k0 :: st) σ emb X := by
  intro a ha l G p e s m args below meth c H locs lsA cells slots Q C hH hL hc hF
  obtain ⟨h1, rfl⟩ := hd
  obtain ⟨C0, T, N, f1, f2, f3, f4⟩ := hf
  have hk := sg_O_lt hO
  have kk := k a ha l G p e s m args below meth c H locs lsA cells slots Q C hH hL hc hF
  rw [List.map_cons, sg_v_ref G h140] at kk
  rw [List.map_cons, sg_v_ref G (by omega)]
  exact va_get C.1 C.2.1 C.2.2.2.2.1 f2 C.2.2.2.1 C.2.2.2.2.2.1 hH.1 k0 (by rw [sg_W_at hk, sg_E_obj hO]) f1 j f3 (C.2.2.2.2.1 _ f4) (fun _ h => h) (sg_fl_ref _ _ fl 0 j k1 hj) h1 kk
theorem ev_putI {k0 idx : Nat} (ci j : Nat) {fl : List (Option Nat)} {x : Int32} {ty : FieldType} (hd : Ins M pc nx 3 (.putfield idx)) (hf : sg_FL M.1 idx ci j) (hp : sg_FP ci j ty) (hn : narrow ty (.int x) = .int x) (hfit : fits ty (.int x) = true) (hO : sg_O k0 = some (ci, fl)) (hj : fl[j]? = some none) (k : Ev M R nx ls st (sg_st σ k0 j x) emb X) : Ev M R pc ls (.int x :: .ref k0 :: st) σ emb X := by
  intro a ha l G p e s m args below meth c H locs lsA cells slots Q C hH hL hc hF
  obtain ⟨h1, rfl⟩ := hd
  obtain ⟨C0, T, N, f1, f2, f3, f4⟩ := hf
  obtain ⟨C1, T1, N1, ty0, g1, g2, g3, g4, g5⟩ := hp
  have e := Option.some.inj (f1.symm.trans g1)
  cases e
  have hk := sg_O_lt hO
  rw [List.map_cons, List.map_cons, sg_v_ref G (by omega)]
  have he : (sg_W G σ)[k0]? = some (sg_ad G k0, .inr (ci, sg_fl (sg_ad G) fl (σ k0) 0)) := by rw [sg_W_at hk, sg_E_obj hO]
  have hset : (sg_W G σ).set k0 (sg_ad G k0, .inr (ci, (sg_fl (sg_ad G) fl (σ k0) 0).set j (.int x))) = sg_W G (sg_st σ k0 j x) := by
    refine sg_W_set hk ?_
    rw [sg_E_obj hO, sg_fl_set _ _ fl _ 0 j hj, Nat.zero_add]
  refine va_put C.1 C.2.1 C.2.2.2.2.1 f2 ty0 g2 g3 C.2.2.2.1 C.2.2.2.2.2.1 hH.1 hH.2.1 hH.2.2 k0 he f1 j f3 (C.2.2.2.2.1 _ f4) (fun _ h => h) g4 (ty := ty) (by rw [g2 j f3, g5]) hn hfit (by rw [sg_fl_len]; exact (List.getElem?_eq_some_iff.mp hj).1) h1 (fun H1 locs1 hP1 hD1 hS1 => ?_)
  rw [sg_v_int, hset] at hP1 hD1
  exact k a ha l G p e s m args below meth c H1 locs1 lsA cells slots Q C ⟨hP1, hD1, hS1⟩ hL hc hF

/-- an index is in its row -/
def sg_in (i : Int32) (n : Nat) : Bool := decide (¬ i < 0) && decide (i.toNatClampNeg < n)
theorem sg_in_vp {i : Int32} {n : Nat} (h : sg_in i n = true) : vp_in i n := by
  simp only [sg_in, Bool.and_eq_true, decide_eq_true_eq] at h
  rintro (q | q)
  · exact h.1 q
  · exact absurd h.2 (Nat.not_lt.mpr q)
theorem ev_iald {k0 n : Nat} {i : Int32} (hd : Ins M pc nx 1 .iaload) (hA : sg_A k0 = some n) (k : Ev M R nx ls (.int (σ k0 i.toNatClampNeg) :: st) σ emb X) : Ev M R pc ls (.int i :: .ref k0 :: st) σ emb (if sg_in i n = true then X else none) := by
  intro a ha l G p e s m args below meth c H locs lsA cells slots Q C hH hL hc hF
  obtain ⟨h1, rfl⟩ := hd
  by_cases hi : sg_in i n = true
  · rw [if_pos hi] at ha
    have hk := sg_A_lt hA
    rw [List.map_cons, List.map_cons, sg_v_ref G (by omega)]
    exact va_iald C.1 C.2.1 C.2.2.2.2.2.1 hH.1 k0 0 (by rw [sg_W_at hk, sg_E_arr hA]) rfl (sg_in_vp hi) h1 (k a ha l G p e s m args below meth c H locs lsA cells slots Q C hH hL hc hF)
  · rw [if_neg hi] at ha; cases ha
theorem ev_iast {k0 n : Nat} {i x : Int32} (hd : Ins M pc nx 1 .iastore) (hA : sg_A k0 = some n) (k : Ev M R nx ls st (sg_st σ k0 i.toNatClampNeg x) emb X) : Ev M R pc ls (.int x :: .int i :: .ref k0 :: st) σ emb (if sg_in i n = true then X else none) := by
  intro a ha l G p e s m args below meth c H locs lsA cells slots Q C hH hL hc hF
  obtain ⟨h1, rfl⟩ := hd
  by_cases hi : sg_in i n = true
  · rw [if_pos hi] at ha
    have hk := sg_A_lt hA
    rw [List.map_cons, List.map_cons, List.map_cons, sg_v_ref G (by omega)]
    refine va_iast C.1 C.2.1 C.2.2.2.2.2.1 hH.1 hH.2.1 hH.2.2 k0 0 (by rw [sg_W_at hk, sg_E_arr hA]) rfl (sg_in_vp hi) h1 (fun H1 locs1 hP1 hD1 hS1 => ?_)
    rw [sg_W_set hk (sg_E_arr hA).symm] at hP1 hD1
    exact k a ha l G p e s m args below meth c H1 locs1 lsA cells slots Q C ⟨hP1, hD1, hS1⟩ hL hc hF
  · rw [if_neg hi] at ha; cases ha
theorem ev_alen {k0 n : Nat} {v : Int32} (hd : Ins M pc nx 1 .arraylength) (hA : sg_A k0 = some n) (hv : Int32.ofNat n = v) (k : Ev M R nx ls (.int v :: st) σ emb X) : Ev M R pc ls (.ref k0 :: st) σ emb X := by
  intro a ha l G p e s m args below meth c H locs lsA cells slots Q C hH hL hc hF
  obtain ⟨h1, rfl⟩ := hd
  have hk := sg_A_lt hA
  rw [List.map_cons, sg_v_ref G (by omega)]
  exact va_alen C.1 C.2.1 C.2.2.2.2.2.1 hH.1 k0 0 (by rw [sg_W_at hk, sg_E_arr hA]) rfl hv h1 (k a ha l G p e s m args below meth c H locs lsA cells slots Q C hH hL hc hF)
/-- the row of sheets -/
theorem ev_aaldS {i : Int32} (hd : Ins M pc nx 1 .aaload) (k : Ev M R nx ls (.ref (53 + 2 * i.toNatClampNeg) :: st) σ emb X) : Ev M R pc ls (.int i :: .ref 52 :: st) σ emb (if sg_in i 4 = true then X else none) := by
  intro a ha l G p e s m args below meth c H locs lsA cells slots Q C hH hL hc hF
  obtain ⟨h1, rfl⟩ := hd
  by_cases hi : sg_in i 4 = true
  · rw [if_pos hi] at ha
    have hv := sg_in_vp hi
    have hlt : i.toNatClampNeg < 4 := Nat.not_le.mp fun q => hv (Or.inr q)
    have kk := k a ha l G p e s m args below meth c H locs lsA cells slots Q C hH hL hc hF
    rw [List.map_cons, sg_v_ref G (by omega)] at kk
    exact va_aldq C.1 C.2.1 C.2.2.2.2.2.1 hH.1 52 1 (sg_W_at (by omega)) rfl hv h1 kk
  · rw [if_neg hi] at ha; cases ha
/-- the row of the kinds' names -/
theorem ev_aaldT {i : Int32} (hd : Ins M pc nx 1 .aaload) (k : Ev M R nx ls (.ref (100 + i.toNatClampNeg) :: st) σ emb X) : Ev M R pc ls (.int i :: .ref 68 :: st) σ emb (if sg_in i 7 = true then X else none) := by
  intro a ha l G p e s m args below meth c H locs lsA cells slots Q C hH hL hc hF
  obtain ⟨h1, rfl⟩ := hd
  by_cases hi : sg_in i 7 = true
  · rw [if_pos hi] at ha
    have hv := sg_in_vp hi
    have hlt : i.toNatClampNeg < 7 := Nat.not_le.mp fun q => hv (Or.inr q)
    have kk := k a ha l G p e s m args below meth c H locs lsA cells slots Q C hH hL hc hF
    rw [List.map_cons, sg_v_ref G (by omega)] at kk
    exact va_aldq C.1 C.2.1 C.2.2.2.2.2.1 hH.1 68 2 (sg_W_at (by omega)) rfl hv h1 kk
  · rw [if_neg hi] at ha; cases ha
theorem ev_alenT {v : Int32} (hd : Ins M pc nx 1 .arraylength) (hv : Int32.ofNat 7 = v) (k : Ev M R nx ls (.int v :: st) σ emb X) : Ev M R pc ls (.ref 68 :: st) σ emb X := by
  intro a ha l G p e s m args below meth c H locs lsA cells slots Q C hH hL hc hF
  obtain ⟨h1, rfl⟩ := hd
  exact va_alen C.1 C.2.1 C.2.2.2.2.2.1 hH.1 68 2 (sg_W_at (by omega)) rfl hv h1 (k a ha l G p e s m args below meth c H locs lsA cells slots Q C hH hL hc hF)
/-- the script -/
def sg_scr (x : sg_G) : Nat × (Nat → Int32) := x.2.2.2.2

theorem ev_strCoder {i idx : Nat} (hd : Ins M pc nx 3 (.getfield idx)) (hi : i < 12) (hw : Cond.fieldLink M.1 idx "java/lang/String" "coder" "B" ∈ tw) (k : Ev M R nx ls (.int 0 :: st) σ emb X) : Ev M R pc ls (.ref (100 + i) :: st) σ emb X := by
  intro a ha l G p e s m args below meth c H locs lsA cells slots Q C hH hL hc hF
  obtain ⟨h1, rfl⟩ := hd
  rw [List.map_cons, sg_v_ref G (by omega)]
  exact vk_getf C.1 C.2.1 (C.2.2.2.2.2.2.1.1.1 i hi).2.1 hH.2.2 C.2.2.2.1 (C.2.2.2.2.1 _ hw) (fun _ h => h) h1 (k a ha l G p e s m args below meth c H locs lsA cells slots Q C hH hL hc hF)
theorem ev_strValue {i idx : Nat} (hd : Ins M pc nx 3 (.getfield idx)) (hi : i < 12) (hw : Cond.fieldLink M.1 idx "java/lang/String" "value" "[B" ∈ tw) (k : Ev M R nx ls (.ref (120 + i) :: st) σ emb X) : Ev M R pc ls (.ref (100 + i) :: st) σ emb X := by
  intro a ha l G p e s m args below meth c H locs lsA cells slots Q C hH hL hc hF
  obtain ⟨h1, rfl⟩ := hd
  have kk := k a ha l G p e s m args below meth c H locs lsA cells slots Q C hH hL hc hF
  rw [List.map_cons, sg_v_ref G (by omega)] at kk
  rw [List.map_cons, sg_v_ref G (by omega)]
  exact vk_getf C.1 C.2.1 (C.2.2.2.2.2.2.1.1.1 i hi).2.2.1 hH.2.2 C.2.2.2.1 (C.2.2.2.2.1 _ hw) (fun _ h => h) h1 kk
theorem ev_alenB {i : Nat} (hd : Ins M pc nx 1 .arraylength) (hi : i < 12) (k : Ev M R nx ls (.int (Int32.ofNat (sg_len.getD i 0)) :: st) σ emb X) : Ev M R pc ls (.ref (120 + i) :: st) σ emb X := by
  intro a ha l G p e s m args below meth c H locs lsA cells slots Q C hH hL hc hF
  obtain ⟨h1, rfl⟩ := hd
  rw [List.map_cons, sg_v_ref G (by omega)]
  exact va_tlen C.1 C.2.1 (C.2.2.2.2.2.2.1.1.1 i hi).2.2.2 hH.2.2 rfl h1 (k a ha l G p e s m args below meth c H locs lsA cells slots Q C hH hL hc hF)
theorem ev_bald {i : Nat} {j : Int32} (hd : Ins M pc nx 1 .baload) (hi : i < 12) (k : Ev M R nx ls (.int ((sg_byt.getD i []).getD j.toNatClampNeg 0) :: st) σ emb X) : Ev M R pc ls (.int j :: .ref (120 + i) :: st) σ emb (if sg_in j (sg_len.getD i 0) = true then X else none) := by
  intro a ha l G p e s m args below meth c H locs lsA cells slots Q C hH hL hc hF
  obtain ⟨h1, rfl⟩ := hd
  by_cases hj : sg_in j (sg_len.getD i 0) = true
  · rw [if_pos hj] at ha
    rw [List.map_cons, List.map_cons, sg_v_ref G (by omega)]
    exact va_tb C.1 C.2.1 (C.2.2.2.2.2.2.1.1.1 i hi).2.2.2 hH.2.2 (sg_in_vp hj) rfl h1 (k a ha l G p e s m args below meth c H locs lsA cells slots Q C hH hL hc hF)
  · rw [if_neg hj] at ha; cases ha
theorem ev_compact {idx : Nat} (hd : Ins M pc nx 3 (.getstatic idx)) (hw : Cond.fieldLink M.1 idx "java/lang/String" "COMPACT_STRINGS" "Z" ∈ tw) (k : Ev M R nx ls (.int 1 :: st) σ emb X) : Ev M R pc ls st σ emb X := by
  intro a ha l G p e s m args below meth c H locs lsA cells slots Q C hH hL hc hF
  obtain ⟨h1, rfl⟩ := hd
  exact va_gets C.1 C.2.1 C.2.2.2.2.2.2.1.2.1 hH.2.2 C.2.2.2.1 (C.2.2.2.2.1 _ hw) (fun _ h => h) h1 (k a ha l G p e s m args below meth c H locs lsA cells slots Q C hH hL hc hF)
theorem ev_fmt {idx : Nat} (hd : Ins M pc nx 3 (.getstatic idx)) (hw : Cond.fieldLink M.1 idx "jdk/internal/util/Preconditions" "SIOOBE_FORMATTER" "Ljava/util/function/BiFunction;" ∈ tw) (k : Ev M R nx ls (.ref 140 :: st) σ emb X) : Ev M R pc ls st σ emb X := by
  intro a ha l G p e s m args below meth c H locs lsA cells slots Q C hH hL hc hF
  obtain ⟨h1, rfl⟩ := hd
  exact va_gets C.1 C.2.1 C.2.2.2.2.2.2.1.2.2.1 hH.2.2 C.2.2.2.1 (C.2.2.2.2.1 _ hw) (fun _ h => h) h1 (k a ha l G p e s m args below meth c H locs lsA cells slots Q C hH hL hc hF)

theorem ev_iret {v : Int32} {a0 : α} (hd : Ins M pc nx 1 .ireturn) (he : emb a0 = .inl (some (.int v), σ)) (hn : ∀ ty, M.2.2.2 = some ty → narrow ty (.int v) = .int v) : Ev M R pc ls [.int v] σ emb (some a0) := by
  intro a ha l G p e s m args below meth c H locs lsA cells slots Q C hH hL hc hF
  obtain ⟨h1, rfl⟩ := hd
  cases ha
  rw [he] at hF
  exact hF H locs lsA pc hH (by intro w ty e1 e2; cases e1; exact hn ty e2) h1
theorem ev_lret {v : Int64} {a0 : α} (hd : Ins M pc nx 1 .lreturn) (he : emb a0 = .inl (some (.long v), σ)) : Ev M R pc ls [.long v] σ emb (some a0) := by
  intro a ha l G p e s m args below meth c H locs lsA cells slots Q C hH hL hc hF
  obtain ⟨h1, rfl⟩ := hd
  cases ha
  rw [he] at hF
  exact hF H locs lsA pc hH (by intro w ty e1 e2; cases e1) h1
theorem ev_vret {a0 : α} (hd : Ins M pc nx 1 .return_) (he : emb a0 = .inl (none, σ)) : Ev M R pc ls [] σ emb (some a0) := by
  intro a ha l G p e s m args below meth c H locs lsA cells slots Q C hH hL hc hF
  obtain ⟨h1, rfl⟩ := hd
  cases ha
  rw [he] at hF
  exact hF H locs lsA pc hH (by intro w ty e1 e2; cases e1) h1
/-- an answer that must be of its narrow type -/
theorem ev_nar {v : Int32} {ty : FieldType} {ls : List (Option Value)} {st : List Value} (k : vp_nar ty v = v → Ev M R pc ls st σ emb X) : Ev M R pc ls st σ emb (if vp_nar ty v = v then X else none) := by
  by_cases h : vp_nar ty v = v
  · rw [if_pos h]; exact k h
  · rw [if_neg h]; exact ev_none
theorem sg_nar {ty ty2 : FieldType} {v : Int32} (h : vp_nar ty v = v) (e : some ty = some ty2) : narrow ty2 (.int v) = .int v := by
  cases e
  revert h
  cases ty <;> simp [vp_nar, narrow]
/-- less known of the locals -/
def sg_le : List (Option Value) → List (Option Value) → Prop
  | [], _ => True
  | none :: l, [] => sg_le l []
  | none :: l, _ :: r => sg_le l r
  | some v :: l, some w :: r => v = w ∧ sg_le l r
  | some _ :: _, _ => False
theorem sg_le_at : ∀ (l r : List (Option Value)), sg_le l r → ∀ (i : Nat) (v : Value), l[i]? = some (some v) → r[i]? = some (some v)
  | [], _, _, i, v, h => by simp at h
  | none :: l, [], hl, 0, v, h => by simp at h
  | none :: l, [], hl, i + 1, v, h => by
    have := sg_le_at l [] hl i v (by simpa using h)
    simp at this
  | none :: l, _ :: r, hl, 0, v, h => by simp at h
  | none :: l, _ :: r, hl, i + 1, v, h => by simpa using sg_le_at l r hl i v (by simpa using h)
  | some w :: l, some w' :: r, hl, 0, v, h => by simp at h ⊢; rw [← hl.1]; exact h
  | some w :: l, some w' :: r, hl, i + 1, v, h => by simpa using sg_le_at l r hl.2 i v (by simpa using h)
theorem sg_L.less {G : sg_G} {n : Nat} {lsA : Array Slot} {l r : List (Option Value)} (h : sg_L G n lsA r) (hl : sg_le l r) : sg_L G n lsA l := ⟨h.1, h.2.1, fun i v hv => h.2.2 i v (sg_le_at l r hl i v hv)⟩
theorem ev_less {ls2 : List (Option Value)} (k : Ev M R pc ls2 st σ emb X) (hl : sg_le ls2 ls) : Ev M R pc ls st σ emb X := by
  intro a ha l G p e s m args below meth c H locs lsA cells slots Q C hH hL hc hF
  exact k a ha l G p e s m args below meth c H locs lsA cells slots Q C hH (hL.less hl) hc hF
/-- the stretch is at its end -/
theorem ev_exit {a0 : α} {ls2 : List (Option Value)} (he : emb a0 = .inr (pc, ls2, σ)) (hl : sg_le ls2 ls) : Ev M R pc ls [] σ emb (some a0) := by
  intro a ha l G p e s m args below meth c H locs lsA cells slots Q C hH hL hc hF
  cases ha
  rw [he] at hF
  exact hF H locs lsA hH (hL.less hl)
/-- one stretch behind another -/
theorem ev_seq {β : Type} {emb1 : β → sg_X} {F : Option β} {K : β → Option α} (h1 : Ev M R pc ls st σ emb1 F) (h2 : ∀ b : β, match emb1 b with
    | .inl r => ∀ a, K b = some a → emb a = .inl r
    | .inr q => Ev M R q.1 q.2.1 [] q.2.2 emb (K b)) : Ev M R pc ls st σ emb (F.bind K) := by
  intro a ha l G p e s m args below meth c H locs lsA cells slots Q C hH hL hc hF
  cases hF1 : F with
  | none => rw [hF1] at ha; cases ha
  | some b =>
    rw [hF1] at ha
    have ha : K b = some a := ha
    refine h1 b hF1 l G p e s m args below meth c H locs lsA cells slots Q C hH hL hc ?_
    have h3 := h2 b
    cases he : emb1 b with
    | inl r =>
      rw [he] at h3
      rw [h3 a ha] at hF
      exact hF
    | inr q =>
      rw [he] at h3
      intro H' locs' lsA' hH' hL'
      exact h3 a ha l G p e s m args below meth c H' locs' lsA' cells slots Q C hH' hL' hc hF
/-- a loop: its body once more, or its end; none where it goes on beyond n rounds -/
def sg_lp {A B : Type} (body : A → Option (A ⊕ B)) : Nat → A → Option B
  | 0, _ => none
  | n + 1, a => match body a with
    | none => none
    | some (.inl a') => sg_lp body n a'
    | some (.inr b) => some b
theorem ev_loop {A B : Type} {body : A → Option (A ⊕ B)} {embB : A ⊕ B → sg_X} {ex : B → sg_X} (head : Nat) (L : A → List (Option Value)) (S : A → sg_S) (hI : ∀ a, embB (.inl a) = .inr (head, L a, S a)) (hX : ∀ b, embB (.inr b) = ex b) (hb : ∀ a, Ev M R head (L a) [] (S a) embB (body a)) : ∀ (n : Nat) (a : A), Ev M R head (L a) [] (S a) ex (sg_lp body n a) := by
  intro n
  induction n with
  | zero => intro a; exact ev_none
  | succ n ih =>
    intro a0
    intro a ha l G p e s m args below meth c H locs lsA cells slots Q C hH hL hc hF
    unfold sg_lp at ha
    cases hB : body a0 with
    | none => rw [hB] at ha; cases ha
    | some z =>
      rw [hB] at ha
      refine hb a0 z hB l G p e s m args below meth c H locs lsA cells slots Q C hH hL hc ?_
      cases z with
      | inl a' =>
        rw [hI]
        intro H' locs' lsA' hH' hL'
        exact ih a' a ha l G p e s m args below meth c H' locs' lsA' cells slots Q C hH' hL' hc hF
      | inr b =>
        cases ha
        rw [hX]
        exact hF
end RW
end
section
section CL
variable {M N : sg_M} {R rm : Room} {pc nx tgt : Nat} {ls : List (Option Value)} {st stk As : List Value} {σ : sg_S} {α β : Type} {emb : α → sg_X} {X : Option α} {y : MethodName}
/-- a method's contract: at these arguments, over σ, it answers what X tells -/
def sg_Call (y : MethodName) (N : sg_M) (rm : Room) (As : List Value) (σ : sg_S) {β : Type} (emb2 : β → Option Value × sg_S) (F : Option β) : Prop :=
  ∀ a : β, F = some a → ∀ (l : Launch) (G : sg_G), Met l y (Cond.code y N.2.1 N.2.2.1 N.2.2.2 :: tw) rm (va_Pc (As.map (sg_v G)) (sg_Wd G σ)) (sg_Q G (emb2 a)) 0 0 (sg_Ad G)
/-- an answer's kind fits the method's type -/
def sg_rk (r : Option FieldType) (v : Option Value) : Prop := match v with
  | none => r = none
  | some (.int _) => r.isSome = true
  | some (.long _) => r = some .long
  | _ => False
theorem sg_cat1 {G : sg_G} (h : G.2.2.2.1.category = 1) : ∀ v : Value, (∃ x, v = .int x) ∨ (∃ k, v = .ref k) → (sg_v G v).category = 1 := by
  rintro v (⟨x, rfl⟩ | ⟨k, rfl⟩)
  · rfl
  · by_cases hk : k = 140
    · simp only [sg_v, hk, if_true]; exact h
    · rw [sg_v_ref G hk]; rfl
theorem sg_sl_len : ∀ (vs : List Value), (∀ v ∈ vs, v.category = 1) → (lg_sl vs).length = vs.length
  | [], _ => rfl
  | v :: vs, h => by
    have h1 := h v List.mem_cons_self
    have h2 := sg_sl_len vs (fun w hw => h w (List.mem_cons_of_mem _ hw))
    simp only [lg_sl, List.flatMap_cons, List.length_append, List.length_cons] at h2 ⊢
    rw [if_neg (by rw [h1]; decide), h2]
    simp; omega
theorem sg_args_in : ∀ (vs : List Value) (j : Nat), (∀ v ∈ vs, v.category = 1) → ∀ (i : Nat) (v : Value), vs[i]? = some v → (j + i, v) ∈ lv_args j vs
  | [], _, _, i, v, h => by simp at h
  | w :: vs, j, hc, 0, v, h => by simp at h; subst h; exact List.mem_cons_self
  | w :: vs, j, hc, i + 1, v, h => by
    have h1 := hc w List.mem_cons_self
    have := sg_args_in vs (j + 1) (fun w hw => hc w (List.mem_cons_of_mem _ hw)) i v (by simpa using h)
    rw [show j + 1 + i = j + (i + 1) by omega] at this
    simp only [lv_args]
    rw [if_neg (by rw [h1]; decide)]
    exact List.mem_cons_of_mem _ this
theorem sg_call_of {emb2 : β → Option Value × sg_S} {F : Option β} (hy : plainName y.cls = true) (ho : N.1 = y.cls) (hlen : As.length ≤ N.2.2.1) (hA : ∀ v ∈ As, (∃ x, v = Value.int x) ∨ (∃ k, v = Value.ref k)) (hrk : ∀ b, sg_rk N.2.2.2 (emb2 b).1) (ev : Ev N rm 0 (As.map some) [] σ (fun b => Sum.inl (emb2 b)) F) : sg_Call y N rm As σ emb2 F := by
  intro a ha l G
  refine Met.ofW (cc := N.2.1) (maxL := N.2.2.1) (ret := N.2.2.2) hy rfl ?_
  intro p e s m args below meth c s₁ B hml hv
  obtain ⟨rfl, hP, hK, hD, hT, hR⟩ := hv
  have hts0 := atoms_spec (ws := Cond.code y N.2.1 N.2.2.1 N.2.2.2 :: tw) B.pre
  have hown : s.vm.findClass y.cls = some m.cls := findClass_of_methodNamed B.named
  have hcat : ∀ v ∈ As.map (sg_v G), v.category = 1 := fun v hv => by
    obtain ⟨w, h1, rfl⟩ := List.mem_map.mp hv
    exact sg_cat1 hR.2.2 w (hA w h1)
  have hl := lv_entry (As.map (sg_v G)) (n := N.2.2.1) (by rw [sg_sl_len _ hcat, List.length_map]; exact hlen)
  have hlocks := B.notSynchronized
  rw [lg_entry_eq]
  refine ev a ha l G p e s m _ below meth c s.heap [] _ 0 0 _ ⟨B.exec, B.bytes, hml, by rw [ho]; exact hown, fun w hw => hts0 w (List.mem_cons_of_mem _ hw), hK, hT, hR⟩ ⟨hP, hD, va_S.rf⟩ ?_ ⟨Nat.zero_le _, Nat.zero_le _⟩ ?_
  · refine ⟨hl.1, hl.2.1, fun i v hv => ?_⟩
    have h1 : As[i]? = some v := by
      rw [List.getElem?_map] at hv
      cases h : As[i]? with
      | none => rw [h] at hv; cases hv
      | some w => rw [h] at hv; simp at hv; rw [hv]
    have := sg_args_in (As.map (sg_v G)) 0 hcat i (sg_v G v) (by rw [List.getElem?_map, h1]; rfl)
    rw [Nat.zero_add] at this
    exact hl.2.2 _ this
  · intro H' locs' lsA' pc' hH' hn hd
    have h1 := hrk a
    have hq : ∀ t : State, t.heap = H' → s.WarmedH t.vm → sg_Q G (emb2 a) ((As.map (sg_v G)).toArray) s (.returned ((emb2 a).1.map (sg_v G))) t := fun t ht _ => ⟨rfl, by rw [ht]; exact hH'.1, hH'.2.2.F ht⟩
    cases hr : (emb2 a).1 with
    | none =>
      rw [hr] at h1 hd hq
      exact W.vret B.exec B.bytes (by rw [B.returns]; exact h1) hq hH'.2.2.2.2 hd
    | some v =>
      rw [hr] at h1 hd hn hq
      cases v with
      | int x =>
        obtain ⟨ty, hty⟩ := Option.isSome_iff_exists.mp h1
        exact W.zret B.exec B.bytes (ty := ty) (by rw [B.returns]; exact hty) (hn x ty rfl hty) hq hH'.2.2.2.2 hd
      | long x => exact W.lret B.exec B.bytes (by rw [B.returns]; exact h1) hq hH'.2.2.2.2 hd
      | float x => exact absurd h1 (fun h => h)
      | double x => exact absurd h1 (fun h => h)
      | null => exact absurd h1 (fun h => h)
      | ref x => exact absurd h1 (fun h => h)
      | retAddr x => exact absurd h1 (fun h => h)
theorem sg_after {l : Launch} {G : sg_G} {p : Program} {e : Env} {s : State} {m : MethodId} {args : Array Value} {below : List Frame} {meth : Method} {c : Code} {H : Heap} {locs : List Loc} {lsA : Array Slot} {cells slots : Nat} {Q : State → Prop} {r : Option Value × sg_S} {a0 : Array Value} {st0 rest : List Value} (hH : sg_H G σ s H locs)
    (hr : va_Run p l e R s m args below meth c H locs cells slots 0 0 (F0 m pc lsA st0) rest (sg_Q G r a0) (sg_Ad G)) (kk : ∀ (H1 : Heap) (locs1 : List Loc), sg_H G r.2 s H1 locs1 → W p l e R s m args below meth c H1 locs1 cells slots Q (F0 m (pc + 3) lsA ((r.1.map (sg_v G)).toList ++ rest))) : W p l e R s m args below meth c H locs cells slots Q (F0 m pc lsA st0) := by
  intro T hT X
  obtain ⟨v, st₀, t, T', L, h0, X', hL, e1, e2, ⟨hv, hp, hz, hk⟩, st⟩ := hr T hT X
  cases hv
  rw [h0] at hz hk
  obtain ⟨t2, a1, b1⟩ := kk T'.heap (locs ++ L) ⟨by rw [e1]; exact hp, sg_D_any hH.2.1, Nat.le_trans hH.2.2.1 (by rw [e1]; exact hz), fun q h1 h2 => by rw [e1, hk q (Nat.lt_of_lt_of_le h1 hH.2.2.1) h2]; exact hH.2.2.2.1 q h1 h2, fun q hq => by
      rcases List.mem_append.mp hq with h | h
      · exact hH.2.2.2.2 q h
      · exact hL q h⟩ T' rfl X'
  exact ⟨t2, st t2 a1, b1⟩
theorem sg_wd_at {G : sg_G} {p : Program} {s U : State} {m : MethodId} {args : Array Value} {meth : Method} {c : Code} {H : Heap} {locs : List Loc} (C : sg_Cx M G p s m args meth c) (hH : sg_H G σ s H locs) (hU : U.heap = H) (hW : s.WarmedH U.vm) : sg_Wd G σ U := by
  refine ⟨by rw [hU]; exact hH.1, va_K.moved hW.alike C.2.2.2.2.2.1, hH.2.1, ?_, C.2.2.2.2.2.2.2.warm hW⟩
  rw [hU]
  exact (C.2.2.2.2.2.2.1.kept hH.2.2.1 hH.2.2.2.1).moved hW.alike
/-- an object of this class lies at the place -/
def sg_rc (C : String) (k : Nat) : Prop := (∃ (ci : Nat) (fl : List (Option Nat)) (T : u_T) (N : Nat), sg_O k = some (ci, fl) ∧ vwCl[ci]? = some (C, T, N)) ∨ (C = "java/lang/String" ∧ ∃ i, i < 12 ∧ k = 100 + i)
theorem sg_rc_ne {C : String} {k : Nat} (h : sg_rc C k) : k ≠ 140 := by
  rcases h with ⟨ci, fl, T, N, h, -⟩ | ⟨-, i, hi, rfl⟩
  · have := sg_O_lt h; omega
  · omega
theorem sg_recv {G : sg_G} {p : Program} {s : State} {m : MethodId} {args : Array Value} {meth : Method} {c : Code} {H : Heap} {locs : List Loc} {C0 : String} {k : Nat} (C : sg_Cx M G p s m args meth c) (hH : sg_H G σ s H locs) (h : sg_rc C0 k) : ∃ cellB : Cell, H[sg_ad G k]? = some cellB ∧ cellB.vm.isStatics = false ∧ s.vm.findClass C0 = some cellB.cls := by
  rcases h with ⟨ci, fl, T, N, h1, h2⟩ | ⟨rfl, i, hi, rfl⟩
  · exact va_recv C.2.2.2.2.2.1 hH.1 h2 (q0 := k) (by rw [sg_W_at (sg_O_lt h1), sg_E_obj h1])
  · exact vk_recv (i := i) (adK := fun i => sg_ad G (100 + i)) C.2.2.2.2.2.2.1.1 hi hH.2.2
def sg_LV (own : String) (idx : Nat) (C : String) (y : MethodName) (N : sg_M) (n : Nat) : Prop := Cond.methodLink own idx y ∈ tw ∧ Cond.instanceMethod y ∈ tw ∧ Cond.selects C y y ∈ tw ∧ Cond.initialized y.cls ∈ tw ∧ Cond.code y N.2.1 N.2.2.1 N.2.2.2 ∈ tw ∧ (y.cls ≠ "java/lang/invoke/MethodHandle" ∧ y.cls ≠ "java/lang/invoke/VarHandle" ∧ (parseMethodDescriptor y.desc).map (fun d => d.parameters.length) = some n)
def sg_LS (own : String) (idx : Nat) (y : MethodName) (N : sg_M) (n : Nat) : Prop := Cond.methodLink own idx y ∈ tw ∧ Cond.static y ∈ tw ∧ Cond.initialized y.cls ∈ tw ∧ Cond.code y N.2.1 N.2.2.1 N.2.2.2 ∈ tw ∧ (y.cls ≠ "java/lang/invoke/MethodHandle" ∧ y.cls ≠ "java/lang/invoke/VarHandle" ∧ (parseMethodDescriptor y.desc).map (fun d => d.parameters.length) = some n)
/-- the room of a call -/
def sg_fit (N : sg_M) (rm R : Room) : Prop := rm.cells = 0 ∧ rm.slots = 0 ∧ rm.frames + 1 ≤ R.frames ∧ 8 + (N.2.2.1 + 11) + rm.locals ≤ R.locals
theorem sg_sum : ∀ (l : List Value), (l.map fun v => v.category).sum ≤ 2 * l.length
  | [] => by simp
  | v :: l => by
    have := sg_sum l
    rcases lv_cat v with h | h <;> simp [h] <;> omega
theorem ev_callV {emb2 : β → Option Value × sg_S} {F : Option β} {K : β → Option α} {k0 idx n : Nat} {C0 : String} (hd : Ins M pc nx 3 (.invokevirtual idx)) (hw : sg_LV M.1 idx C0 y N n) (hM : sg_Call y N rm (.ref k0 :: As) σ emb2 F) (hrc : sg_rc C0 k0) (hn : As.length = n) (hs : stk = As.reverse ++ .ref k0 :: st) (hst : st.length ≤ 4) (hR : sg_fit N rm R)
    (kk : ∀ b, Ev M R nx ls ((emb2 b).1.toList ++ st) (emb2 b).2 emb (K b)) : Ev M R pc ls stk σ emb (F.bind K) := by
  intro a ha l G p e s m args below meth c H locs lsA cells slots Q C hH hL hc hF
  cases hF1 : F with
  | none => rw [hF1] at ha; cases ha
  | some b =>
    rw [hF1] at ha
    have ha : K b = some a := ha
    obtain ⟨h1, rfl⟩ := hd
    subst hs
    have hk := sg_rc_ne hrc
    have hm := hM b hF1 l G
    obtain ⟨w1, w2, w3, w4, w5, w6⟩ := hw
    have hts := C.2.2.2.2.1
    have cw : CallW R s args M.1 C0 idx y N.2.1 N.2.2.1 N.2.2.2 (Cond.code y N.2.1 N.2.2.1 N.2.2.2 :: tw) rm 0 0 n := ⟨callB_of n hts (tw_goodIn w5) rfl hR.1 hR.2.1 (hts _ w4) (hts _ w1) w6 hR.2.2, hts _ w2, hts _ w3⟩
    have hrun := va_runV (H := H) (locs := locs) (cells := cells) (slots := slots) (below := below) (meth := meth) (e := e) (b := sg_ad G k0) (As := As.map (sg_v G)) (rest := st.map (sg_v G)) (g := F0 m pc lsA ((As.reverse ++ .ref k0 :: st).map (sg_v G))) (cc := M.2.1) (nL := M.2.2.1) (Ts := tw) ⟨C.1, C.2.1, C.2.2.1, C.2.2.2.1, hts⟩ hm cw
      ⟨sg_Wd.blind _ G σ, sg_recv C hH hrc, fun U hU hW => ⟨by rw [List.map_cons, sg_v_ref G hk], sg_wd_at C hH hU hW⟩⟩ rfl (by rw [List.length_map]; exact hn) hL.1 (by rw [List.map_append, List.map_cons, sg_v_ref G hk, List.map_reverse]) (lv_room (Nat.le_trans (sg_sum _) (by rw [List.length_map]; omega))) h1 ⟨by rw [Nat.add_zero]; exact hc.1, by rw [Nat.add_zero]; exact hc.2⟩
    refine sg_after hH hrun (fun H1 locs1 hH1 => ?_)
    have h3 := kk b a ha l G p e s m args below meth c H1 locs1 lsA cells slots Q C hH1 hL hc hF
    rw [List.map_append] at h3
    cases hv : (emb2 b).1 with
    | none => rw [hv] at h3; exact h3
    | some v => rw [hv] at h3; exact h3
theorem ev_callS {emb2 : β → Option Value × sg_S} {F : Option β} {K : β → Option α} {idx n : Nat} (hd : Ins M pc nx 3 (.invokestatic idx)) (hw : sg_LS M.1 idx y N n) (hM : sg_Call y N rm As σ emb2 F) (hn : As.length = n) (hs : stk = As.reverse ++ st) (hst : st.length ≤ 4) (hR : sg_fit N rm R)
    (kk : ∀ b, Ev M R nx ls ((emb2 b).1.toList ++ st) (emb2 b).2 emb (K b)) : Ev M R pc ls stk σ emb (F.bind K) := by
  intro a ha l G p e s m args below meth c H locs lsA cells slots Q C hH hL hc hF
  cases hF1 : F with
  | none => rw [hF1] at ha; cases ha
  | some b =>
    rw [hF1] at ha
    have ha : K b = some a := ha
    obtain ⟨h1, rfl⟩ := hd
    subst hs
    have hm := hM b hF1 l G
    obtain ⟨w1, w2, w4, w5, w6⟩ := hw
    have hts := C.2.2.2.2.1
    have hrun := va_runS (H := H) (locs := locs) (cells := cells) (slots := slots) (below := below) (meth := meth) (e := e) (As := As.map (sg_v G)) (rest := st.map (sg_v G)) (g := F0 m pc lsA ((As.reverse ++ st).map (sg_v G))) (cc := M.2.1) (nL := M.2.2.1) (Ts := tw) (own := M.1) (index := idx) (bytes := N.2.1) (maxL := N.2.2.1) (ret := N.2.2.2) (n := n) ⟨C.1, C.2.1, C.2.2.1, C.2.2.2.1, hts⟩ hm ⟨callB_of n hts (tw_goodIn w5) rfl hR.1 hR.2.1 (hts _ w4) (hts _ w1) w6 hR.2.2, hts _ w2⟩
      ⟨sg_Wd.blind _ G σ, fun U hU hW => ⟨rfl, sg_wd_at C hH hU hW⟩⟩ rfl (by rw [List.length_map]; exact hn) hL.1 (by rw [List.map_append, List.map_reverse]) (lv_room (Nat.le_trans (sg_sum _) (by rw [List.length_map]; omega))) h1 ⟨by rw [Nat.add_zero]; exact hc.1, by rw [Nat.add_zero]; exact hc.2⟩
    refine sg_after hH hrun (fun H1 locs1 hH1 => ?_)
    have h3 := kk b a ha l G p e s m args below meth c H1 locs1 lsA cells slots Q C hH1 hL hc hF
    rw [List.map_append] at h3
    cases hv : (emb2 b).1 with
    | none => rw [hv] at h3; exact h3
    | some v => rw [hv] at h3; exact h3
/-- the nest mate's static within, from the reader -/
theorem ev_callN {emb2 : β → Option Value × sg_S} {F : Option β} {K : β → Option α} (hd : Ins M pc nx 3 (.invokestatic 62)) (hown : M.1 = RX0) (w2 : Cond.static yX4_within ∈ tw) (w4 : Cond.initialized yX4_within.cls ∈ tw) (w5 : Cond.code yX4_within mX4_within.2.1 mX4_within.2.2.1 mX4_within.2.2.2 ∈ tw) (hM : sg_Call yX4_within mX4_within rm As σ emb2 F) (hn : As.length = 2) (hs : stk = As.reverse ++ st) (hst : st.length ≤ 4) (hR : sg_fit mX4_within rm R)
    (kk : ∀ b, Ev M R nx ls ((emb2 b).1.toList ++ st) (emb2 b).2 emb (K b)) : Ev M R pc ls stk σ emb (F.bind K) := by
  intro a ha l G p e s m args below meth c H locs lsA cells slots Q C hH hL hc hF
  cases hF1 : F with
  | none => rw [hF1] at ha; cases ha
  | some b =>
    rw [hF1] at ha
    have ha : K b = some a := ha
    obtain ⟨h1, rfl⟩ := hd
    subst hs
    have hm := hM b hF1 l G
    have hts := C.2.2.2.2.1
    have hcn : va_CN R s args M.1 62 yX4_within RX4 mX4_within.2.1 mX4_within.2.2.1 mX4_within.2.2.2 (Cond.code yX4_within mX4_within.2.1 mX4_within.2.2.1 mX4_within.2.2.2 :: tw) rm 0 0 2 := va_cnB 2 hts (tw_goodIn w5) rfl hR.1 hR.2.1 (by rw [hown]; exact C.2.2.2.2.2.2.2.2.1) (hts _ w4) (by decide +kernel) hR.2.2
    have hrun := va_runSN (H := H) (locs := locs) (cells := cells) (slots := slots) (below := below) (meth := meth) (e := e) (As := As.map (sg_v G)) (rest := st.map (sg_v G)) (g := F0 m pc lsA ((As.reverse ++ st).map (sg_v G))) (cc := M.2.1) (nL := M.2.2.1) (Ts := tw) ⟨C.1, C.2.1, C.2.2.1, C.2.2.2.1, hts⟩ hm ⟨hcn, hts _ w2, trivial⟩
      ⟨sg_Wd.blind _ G σ, fun U hU hW => ⟨rfl, sg_wd_at C hH hU hW⟩⟩ rfl (by rw [List.length_map]; exact hn) hL.1 (by rw [List.map_append, List.map_reverse]) (lv_room (Nat.le_trans (sg_sum _) (by rw [List.length_map]; omega))) h1 ⟨by rw [Nat.add_zero]; exact hc.1, by rw [Nat.add_zero]; exact hc.2⟩
    refine sg_after hH hrun (fun H1 locs1 hH1 => ?_)
    have h3 := kk b a ha l G p e s m args below meth c H1 locs1 lsA cells slots Q C hH1 hL hc hF
    rw [List.map_append] at h3
    cases hv : (emb2 b).1 with
    | none => rw [hv] at h3; exact h3
    | some v => rw [hv] at h3; exact h3
/-- System.arraycopy of ints -/
def sg_cp (sp dp n : Int32) (n0 n1 : Nat) : Bool := decide (¬ sp < 0) && decide (¬ dp < 0) && decide (¬ n < 0) && decide (sp.toNatClampNeg + n.toNatClampNeg ≤ n0) && decide (dp.toNatClampNeg + n.toNatClampNeg ≤ n1)
def sg_cpy (σ : sg_S) (k0 k1 : Nat) (sp dp n : Int32) : sg_S := sg_up σ k1 (va_cpy (σ k0) (σ k1) sp.toNatClampNeg dp.toNatClampNeg n.toNatClampNeg)
theorem ev_acopy {k0 k1 n0 n1 idx : Nat} {sp dp n : Int32} (hd : Ins M pc nx 3 (.invokestatic idx)) (w1 : Cond.methodLink M.1 idx arraycopyName ∈ tw) (w2 : Cond.native arraycopyName ∈ tw) (w3 : Cond.static arraycopyName ∈ tw) (w4 : Cond.initialized "java/lang/System" ∈ tw) (hA0 : sg_A k0 = some n0) (hA1 : sg_A k1 = some n1) (hst : st.length ≤ 4) (hR : 1 ≤ R.frames ∧ 26 ≤ R.locals)
    (k : Ev M R nx ls st (sg_cpy σ k0 k1 sp dp n) emb X) : Ev M R pc ls (.int n :: .int dp :: .ref k1 :: .int sp :: .ref k0 :: st) σ emb (if sg_cp sp dp n n0 n1 = true then X else none) := by
  intro a ha l G p e s m args below meth c H locs lsA cells slots Q C hH hL hc hF
  obtain ⟨h1, rfl⟩ := hd
  by_cases hi : sg_cp sp dp n n0 n1 = true
  · rw [if_pos hi] at ha
    simp only [sg_cp, Bool.and_eq_true, decide_eq_true_eq] at hi
    have hk0 := sg_A_lt hA0
    have hk1 := sg_A_lt hA1
    have hts := C.2.2.2.2.1
    simp only [List.map_cons]
    rw [sg_v_ref G (k := k0) (by omega), sg_v_ref G (k := k1) (by omega)]
    refine va_copyi C.1 C.2.1 (by rw [C.2.2.1]; exact hL.1.symm) C.2.2.2.1 (hts _ w1) (hts _ w2) (hts _ w3) (hts _ w4) C.2.2.2.2.2.1 hH.1 hH.2.1 hH.2.2 k0 k1 0 0 (ty := .int) (by rw [sg_W_at hk0, sg_E_arr hA0]) (by rw [sg_W_at hk1, sg_E_arr hA1]) rfl rfl rfl hi.1.1.1.1 hi.1.1.1.2 hi.1.1.2 hi.1.2 hi.2 (fun _ _ => rfl) hR.1 ?_ h1 (fun H1 locs1 hP1 hD1 hS1 => ?_)
    · have h5 := sg_sum (st.map (sg_v G))
      rw [List.length_map] at h5
      have h6 : nativeFrameWords "java/lang/System" "arraycopy" 5 = 7 := by decide
      rw [h6]
      omega
    · rw [sg_W_set hk1 (sg_E_arr hA1).symm] at hP1 hD1
      exact k a ha l G p e s m args below meth c H1 locs1 lsA cells slots Q C ⟨hP1, hD1, hS1⟩ hL hc hF
  · rw [if_neg hi] at ha; cases ha
/-! the kinds of answers: read-only int, int with a new state, a new state alone, longs -/
abbrev eRI (σ : sg_S) : Int32 → Option Value × sg_S := fun r => (some (.int r), σ)
abbrev eRL (σ : sg_S) : Int64 → Option Value × sg_S := fun r => (some (.long r), σ)
abbrev eRV (σ : sg_S) : Unit → Option Value × sg_S := fun _ => (none, σ)
abbrev eMI : Int32 × sg_S → Option Value × sg_S := fun r => (some (.int r.1), r.2)
abbrev eML : Int64 × sg_S → Option Value × sg_S := fun r => (some (.long r.1), r.2)
abbrev eMV : sg_S → Option Value × sg_S := fun r => (none, r)
theorem ev_VRI {F : Option (Int32)} {K : Int32 → Option α} {k0 idx n : Nat} {C0 : String} (hd : Ins M pc nx 3 (.invokevirtual idx)) (hw : sg_LV M.1 idx C0 y N n) (hM : sg_Call y N rm (.ref k0 :: As) σ (eRI σ) F) (hrc : sg_rc C0 k0) (hn : As.length = n) (hs : stk = As.reverse ++ .ref k0 :: st) (hst : st.length ≤ 4) (hR : sg_fit N rm R) (kk : ∀ r : Int32, Ev M R nx ls (.int r :: st) σ emb (K r)) : Ev M R pc ls stk σ emb (F.bind K) := ev_callV hd hw hM hrc hn hs hst hR (fun r => kk r)
theorem ev_SRI {F : Option (Int32)} {K : Int32 → Option α} {idx n : Nat} (hd : Ins M pc nx 3 (.invokestatic idx)) (hw : sg_LS M.1 idx y N n) (hM : sg_Call y N rm As σ (eRI σ) F) (hn : As.length = n) (hs : stk = As.reverse ++ st) (hst : st.length ≤ 4) (hR : sg_fit N rm R) (kk : ∀ r : Int32, Ev M R nx ls (.int r :: st) σ emb (K r)) : Ev M R pc ls stk σ emb (F.bind K) := ev_callS hd hw hM hn hs hst hR (fun r => kk r)
theorem ev_VRL {F : Option (Int64)} {K : Int64 → Option α} {k0 idx n : Nat} {C0 : String} (hd : Ins M pc nx 3 (.invokevirtual idx)) (hw : sg_LV M.1 idx C0 y N n) (hM : sg_Call y N rm (.ref k0 :: As) σ (eRL σ) F) (hrc : sg_rc C0 k0) (hn : As.length = n) (hs : stk = As.reverse ++ .ref k0 :: st) (hst : st.length ≤ 4) (hR : sg_fit N rm R) (kk : ∀ r : Int64, Ev M R nx ls (.long r :: st) σ emb (K r)) : Ev M R pc ls stk σ emb (F.bind K) := ev_callV hd hw hM hrc hn hs hst hR (fun r => kk r)
theorem ev_SRL {F : Option (Int64)} {K : Int64 → Option α} {idx n : Nat} (hd : Ins M pc nx 3 (.invokestatic idx)) (hw : sg_LS M.1 idx y N n) (hM : sg_Call y N rm As σ (eRL σ) F) (hn : As.length = n) (hs : stk = As.reverse ++ st) (hst : st.length ≤ 4) (hR : sg_fit N rm R) (kk : ∀ r : Int64, Ev M R nx ls (.long r :: st) σ emb (K r)) : Ev M R pc ls stk σ emb (F.bind K) := ev_callS hd hw hM hn hs hst hR (fun r => kk r)
theorem ev_VRV {F : Option (Unit)} {K : Unit → Option α} {k0 idx n : Nat} {C0 : String} (hd : Ins M pc nx 3 (.invokevirtual idx)) (hw : sg_LV M.1 idx C0 y N n) (hM : sg_Call y N rm (.ref k0 :: As) σ (eRV σ) F) (hrc : sg_rc C0 k0) (hn : As.length = n) (hs : stk = As.reverse ++ .ref k0 :: st) (hst : st.length ≤ 4) (hR : sg_fit N rm R) (kk : ∀ _r : Unit, Ev M R nx ls (st) σ emb (K ())) : Ev M R pc ls stk σ emb (F.bind K) := ev_callV hd hw hM hrc hn hs hst hR (fun r => kk r)
theorem ev_SRV {F : Option (Unit)} {K : Unit → Option α} {idx n : Nat} (hd : Ins M pc nx 3 (.invokestatic idx)) (hw : sg_LS M.1 idx y N n) (hM : sg_Call y N rm As σ (eRV σ) F) (hn : As.length = n) (hs : stk = As.reverse ++ st) (hst : st.length ≤ 4) (hR : sg_fit N rm R) (kk : ∀ _r : Unit, Ev M R nx ls (st) σ emb (K ())) : Ev M R pc ls stk σ emb (F.bind K) := ev_callS hd hw hM hn hs hst hR (fun r => kk r)
theorem ev_VMI {F : Option (Int32 × sg_S)} {K : Int32 × sg_S → Option α} {k0 idx n : Nat} {C0 : String} (hd : Ins M pc nx 3 (.invokevirtual idx)) (hw : sg_LV M.1 idx C0 y N n) (hM : sg_Call y N rm (.ref k0 :: As) σ eMI F) (hrc : sg_rc C0 k0) (hn : As.length = n) (hs : stk = As.reverse ++ .ref k0 :: st) (hst : st.length ≤ 4) (hR : sg_fit N rm R) (kk : ∀ r : Int32 × sg_S, Ev M R nx ls (.int r.1 :: st) r.2 emb (K r)) : Ev M R pc ls stk σ emb (F.bind K) := ev_callV hd hw hM hrc hn hs hst hR (fun r => kk r)
theorem ev_SMI {F : Option (Int32 × sg_S)} {K : Int32 × sg_S → Option α} {idx n : Nat} (hd : Ins M pc nx 3 (.invokestatic idx)) (hw : sg_LS M.1 idx y N n) (hM : sg_Call y N rm As σ eMI F) (hn : As.length = n) (hs : stk = As.reverse ++ st) (hst : st.length ≤ 4) (hR : sg_fit N rm R) (kk : ∀ r : Int32 × sg_S, Ev M R nx ls (.int r.1 :: st) r.2 emb (K r)) : Ev M R pc ls stk σ emb (F.bind K) := ev_callS hd hw hM hn hs hst hR (fun r => kk r)
theorem ev_VML {F : Option (Int64 × sg_S)} {K : Int64 × sg_S → Option α} {k0 idx n : Nat} {C0 : String} (hd : Ins M pc nx 3 (.invokevirtual idx)) (hw : sg_LV M.1 idx C0 y N n) (hM : sg_Call y N rm (.ref k0 :: As) σ eML F) (hrc : sg_rc C0 k0) (hn : As.length = n) (hs : stk = As.reverse ++ .ref k0 :: st) (hst : st.length ≤ 4) (hR : sg_fit N rm R) (kk : ∀ r : Int64 × sg_S, Ev M R nx ls (.long r.1 :: st) r.2 emb (K r)) : Ev M R pc ls stk σ emb (F.bind K) := ev_callV hd hw hM hrc hn hs hst hR (fun r => kk r)
theorem ev_SML {F : Option (Int64 × sg_S)} {K : Int64 × sg_S → Option α} {idx n : Nat} (hd : Ins M pc nx 3 (.invokestatic idx)) (hw : sg_LS M.1 idx y N n) (hM : sg_Call y N rm As σ eML F) (hn : As.length = n) (hs : stk = As.reverse ++ st) (hst : st.length ≤ 4) (hR : sg_fit N rm R) (kk : ∀ r : Int64 × sg_S, Ev M R nx ls (.long r.1 :: st) r.2 emb (K r)) : Ev M R pc ls stk σ emb (F.bind K) := ev_callS hd hw hM hn hs hst hR (fun r => kk r)
theorem ev_VMV {F : Option (sg_S)} {K : sg_S → Option α} {k0 idx n : Nat} {C0 : String} (hd : Ins M pc nx 3 (.invokevirtual idx)) (hw : sg_LV M.1 idx C0 y N n) (hM : sg_Call y N rm (.ref k0 :: As) σ eMV F) (hrc : sg_rc C0 k0) (hn : As.length = n) (hs : stk = As.reverse ++ .ref k0 :: st) (hst : st.length ≤ 4) (hR : sg_fit N rm R) (kk : ∀ r : sg_S, Ev M R nx ls (st) r emb (K r)) : Ev M R pc ls stk σ emb (F.bind K) := ev_callV hd hw hM hrc hn hs hst hR (fun r => kk r)
theorem ev_SMV {F : Option (sg_S)} {K : sg_S → Option α} {idx n : Nat} (hd : Ins M pc nx 3 (.invokestatic idx)) (hw : sg_LS M.1 idx y N n) (hM : sg_Call y N rm As σ eMV F) (hn : As.length = n) (hs : stk = As.reverse ++ st) (hst : st.length ≤ 4) (hR : sg_fit N rm R) (kk : ∀ r : sg_S, Ev M R nx ls (st) r emb (K r)) : Ev M R pc ls stk σ emb (F.bind K) := ev_callS hd hw hM hn hs hst hR (fun r => kk r)
/-! switches -/
def sg_sw {α : Type} (x : Int32) : List (Int32 × Option α) → Option α → Option α
  | [], d => d
  | (v, X) :: l, d => if x = v then X else sg_sw x l d
def EvL (M : sg_M) (R : Room) (ls : List (Option Value)) (st : List Value) (σ : sg_S) {α : Type} (emb : α → sg_X) : List Nat → List (Int32 × Option α) → Prop
  | [], [] => True
  | t :: ts, q :: qs => Ev M R t ls st σ emb q.2 ∧ EvL M R ls st σ emb ts qs
  | _, _ => False
/-- each of these values goes to its target -/
def sg_goes (M : sg_M) (pc : Nat) : List Nat → List (Int32 × Option α) → Prop
  | [], [] => True
  | t :: ts, q :: qs => (∀ (p : Program) (l : Launch) (e : Env) (R : Room) (s : State) (m : MethodId) (args : Array Value) (below : List Frame) (meth : Method) (c : Code) (H : Heap) (locs : List Loc) (cells slots : Nat) (Q : State → Prop) (ls : Array Slot) (rest : List Value), p.tables.exec = Jvm.exec → c.code = M.2.1 → W p l e R s m args below meth c H locs cells slots Q (F0 m t ls rest) → W p l e R s m args below meth c H locs cells slots Q (F0 m pc ls (.int q.1 :: rest))) ∧ sg_goes M pc ts qs
  | _, _ => False
theorem ev_sw {x : Int32} {dt : Nat} (D : Option α) : ∀ (ts : List Nat) (Xs : List (Int32 × Option α)), sg_goes M pc ts Xs → EvL M R ls st σ emb ts Xs → ((∀ q ∈ Xs, x ≠ q.1) → Ev M R pc ls (.int x :: st) σ emb D) → Ev M R pc ls (.int x :: st) σ emb (sg_sw x Xs D)
  | [], [], _, _, hD => hD (fun q h => by cases h)
  | [], _ :: _, h, _, _ => absurd h (fun h => h)
  | _ :: _, [], h, _, _ => absurd h (fun h => h)
  | t :: ts, q :: qs, hg, hE, hD => by
    by_cases hx : x = q.1
    · intro a ha l G p e s m args below meth c H locs lsA cells slots Q C hH hL hc hF
      obtain ⟨v, Y⟩ := q
      simp only [sg_sw] at ha
      rw [if_pos hx] at ha
      rw [hx]
      exact hg.1 p l e R s m args below meth c H locs cells slots Q lsA _ C.1 C.2.1 (hE.1 a ha l G p e s m args below meth c H locs lsA cells slots Q C hH hL hc hF)
    · have h := ev_sw (dt := dt) D ts qs hg.2 hE.2 (fun h => hD (fun z hz => by
        rcases List.mem_cons.mp hz with rfl | hz
        · exact hx
        · exact h z hz))
      obtain ⟨v, Y⟩ := q
      simp only [sg_sw]
      rw [if_neg hx]
      exact h
/-- a table whose entries are lo, lo + 1, .. -/
def sg_tab (pc : Nat) (lo : Int) (offs : Array Int) : Nat → List Nat → List (Int32 × Option α) → Prop
  | _, [], [] => True
  | j, t :: ts, q :: qs => q.1.toInt = lo + j ∧ offs[j]? = some ((t : Int) - pc) ∧ sg_tab pc lo offs (j + 1) ts qs
  | _, _, _ => False
theorem sg_tab_goes {dflt lo hi : Int} {offs : Array Int} {len : Nat} (hd : decode M.2.1 pc = .ok (.tableswitch dflt lo hi offs, len)) : ∀ (ts : List Nat) (Xs : List (Int32 × Option α)) (j : Nat), lo + j + ts.length - 1 ≤ hi → sg_tab pc lo offs j ts Xs → sg_goes M pc ts Xs
  | [], [], _, _, _ => trivial
  | [], _ :: _, _, _, h => absurd h (fun h => h)
  | _ :: _, [], _, _, h => absurd h (fun h => h)
  | t :: ts, q :: qs, j, hj, h => by
    simp only [List.length_cons, Int.natCast_add, Int.natCast_one] at hj
    refine ⟨fun p l e R s m args below meth c H locs cells slots Q ls rest hx hb k => ?_, sg_tab_goes hd ts qs (j + 1) (by simp only [Int.natCast_add, Int.natCast_one]; omega) h.2.2⟩
    exact lv_tableIn (tgt := t) hx hb hd (by rw [h.1]; omega) (by rw [h.1]; omega) (off := (t : Int) - pc) (by rw [h.1, show (lo + (j : Int) - lo).toNat = j by omega]; exact h.2.1) (by omega) k
theorem sg_tab_out {lo : Int} {offs : Array Int} {x : Int32} : ∀ (ts : List Nat) (Xs : List (Int32 × Option α)) (j : Nat), sg_tab pc lo offs j ts Xs → (∀ q ∈ Xs, x ≠ q.1) → x.toInt < lo + j ∨ lo + j + ts.length ≤ x.toInt
  | [], [], j, _, _ => by simp only [List.length_nil, Int.natCast_zero]; omega
  | [], _ :: _, _, h, _ => absurd h (fun h => h)
  | _ :: _, [], _, h, _ => absurd h (fun h => h)
  | t :: ts, q :: qs, j, h, hx => by
    have h1 := sg_tab_out ts qs (j + 1) h.2.2 (fun z hz => hx z (List.mem_cons_of_mem _ hz))
    have h2 : x.toInt ≠ q.1.toInt := fun e => hx q List.mem_cons_self (Int32.toInt_inj.mp e)
    rw [h.1] at h2
    simp only [List.length_cons, Int.natCast_add, Int.natCast_one] at h1 ⊢
    omega
theorem ev_table {x : Int32} {dflt lo hi : Int} {offs : Array Int} {len dt : Nat} {D : Option α} (ts : List Nat) {Xs : List (Int32 × Option α)} (hd : decode M.2.1 pc = .ok (.tableswitch dflt lo hi offs, len)) (hh : lo + ts.length - 1 = hi) (hdt : (pc : Int) + dflt = (dt : Int)) (ht : sg_tab pc lo offs 0 ts Xs) (kd : Ev M R dt ls st σ emb D) (ks : EvL M R ls st σ emb ts Xs) : Ev M R pc ls (.int x :: st) σ emb (sg_sw x Xs D) := by
  refine ev_sw (dt := dt) D ts Xs (sg_tab_goes hd ts Xs 0 (by simp only [Int.natCast_zero]; omega) ht) ks (fun hx => ?_)
  intro a ha l G p e s m args below meth c H locs lsA cells slots Q C hH hL hc hF
  have h1 := sg_tab_out (x := x) ts Xs 0 ht hx
  simp only [Int.natCast_zero] at h1
  exact lv_tableOut (tgt := dt) C.1 C.2.1 hd (by omega) hdt (kd a ha l G p e s m args below meth c H locs lsA cells slots Q C hH hL hc hF)
/-- a lookup: each key's offset, and the default's -/
def sg_look (pc : Nat) : List (Int × Int) → List Nat → List (Int32 × Option α) → Prop
  | [], [], [] => True
  | z :: zs, t :: ts, q :: qs => q.1.toInt = z.1 ∧ z.2 = (t : Int) - pc ∧ sg_look pc zs ts qs
  | _, _, _ => False
theorem ev_lookup2 {x v1 v2 : Int32} {dflt z1 o1 z2 o2 : Int} {len dt t1 t2 : Nat} {D X1 X2 : Option α} (hd : decode M.2.1 pc = .ok (.lookupswitch dflt #[(z1, o1), (z2, o2)], len)) (hz : z1 < z2) (e1 : v1.toInt = z1) (e2 : v2.toInt = z2) (hdt : (pc : Int) + dflt = (dt : Int)) (ht1 : (pc : Int) + o1 = (t1 : Int)) (ht2 : (pc : Int) + o2 = (t2 : Int)) (kd : Ev M R dt ls st σ emb D) (k1 : Ev M R t1 ls st σ emb X1) (k2 : Ev M R t2 ls st σ emb X2) : Ev M R pc ls (.int x :: st) σ emb (sg_sw x [(v1, X1), (v2, X2)] D) := by
  intro a ha l G p e s m args below meth c H locs lsA cells slots Q C hH hL hc hF
  simp only [sg_sw] at ha
  have hp : ((#[(z1, o1), (z2, o2)] : Array (Int × Int)).toList.zip ((#[(z1, o1), (z2, o2)] : Array (Int × Int)).toList.drop 1)).all (fun (a, next) => a.1 < next.1) = true := by simp [hz]
  by_cases h1 : x = v1
  · rw [if_pos h1] at ha
    refine lv_lookup (tgt := t1) C.1 C.2.1 hd hp (off := o1) ?_ ht1 (k1 a ha l G p e s m args below meth c H locs lsA cells slots Q C hH hL hc hF)
    rw [h1, e1]; simp [Op.lookupswitch.offset]
  · rw [if_neg h1] at ha
    have n1 : x.toInt ≠ z1 := fun q => h1 (Int32.toInt_inj.mp (q.trans e1.symm))
    by_cases h2 : x = v2
    · rw [if_pos h2] at ha
      refine lv_lookup (tgt := t2) C.1 C.2.1 hd hp (off := o2) ?_ ht2 (k2 a ha l G p e s m args below meth c H locs lsA cells slots Q C hH hL hc hF)
      rw [h2, e2]; simp [Op.lookupswitch.offset]; intro h; omega
    · rw [if_neg h2] at ha
      have n2 : x.toInt ≠ z2 := fun q => h2 (Int32.toInt_inj.mp (q.trans e2.symm))
      refine lv_lookup (tgt := dt) C.1 C.2.1 hd hp (off := dflt) ?_ hdt (kd a ha l G p e s m args below meth c H locs lsA cells slots Q C hH hL hc hF)
      simp [Op.lookupswitch.offset, n1, n2, Ne.symm n1, Ne.symm n2]
end CL
end
