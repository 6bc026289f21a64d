section
/-- a private method of a class that the tables say can be made, by its rows of tables_1 -/
def lw_okq (q : MethodName × Nat) : Prop := (q.1.cls ≠ "java/lang/invoke/MethodHandle" ∧ q.1.cls ≠ "java/lang/invoke/VarHandle") ∧ Cond.instantiable q.1.cls q.2 ∈ tables_1 ∧ Cond.privateMethod q.1 ∈ tables_1 ∧ Cond.instanceMethod q.1 ∈ tables_1
theorem lw_p0 : lw_okq (⟨"RhymeLaw$Text", "behind", "(III)I"⟩, 5) := ⟨⟨by decide +kernel, by decide +kernel⟩, List.mem_of_getElem? (i := 30) (by decide +kernel), List.mem_of_getElem? (i := 324) (by decide +kernel), List.mem_of_getElem? (i := 325) (by decide +kernel)⟩
theorem lw_p1 : lw_okq (⟨"RhymeLaw$Text", "byteAt", "(I)I"⟩, 5) := ⟨⟨by decide +kernel, by decide +kernel⟩, List.mem_of_getElem? (i := 30) (by decide +kernel), List.mem_of_getElem? (i := 328) (by decide +kernel), List.mem_of_getElem? (i := 329) (by decide +kernel)⟩
theorem lw_p2 : lw_okq (⟨"RhymeLaw$Paper", "lay", "(IIII)V"⟩, 5) := ⟨⟨by decide +kernel, by decide +kernel⟩, List.mem_of_getElem? (i := 76) (by decide +kernel), List.mem_of_getElem? (i := 493) (by decide +kernel), List.mem_of_getElem? (i := 494) (by decide +kernel)⟩
theorem lw_p3 : lw_okq (⟨"RhymeLaw", "isNoView", "(II)Z"⟩, 12) := ⟨⟨by decide +kernel, by decide +kernel⟩, List.mem_of_getElem? (i := 22) (by decide +kernel), List.mem_of_getElem? (i := 592) (by decide +kernel), List.mem_of_getElem? (i := 593) (by decide +kernel)⟩
theorem lw_p4 : lw_okq (⟨"RhymeLaw", "view", "(II)LRhymeLaw$Verdict;"⟩, 12) := ⟨⟨by decide +kernel, by decide +kernel⟩, List.mem_of_getElem? (i := 22) (by decide +kernel), List.mem_of_getElem? (i := 596) (by decide +kernel), List.mem_of_getElem? (i := 597) (by decide +kernel)⟩
theorem lw_p5 : lw_okq (⟨"RhymeLaw$Verdict", "enter", "(IIII)V"⟩, 5) := ⟨⟨by decide +kernel, by decide +kernel⟩, List.mem_of_getElem? (i := 53) (by decide +kernel), List.mem_of_getElem? (i := 621) (by decide +kernel), List.mem_of_getElem? (i := 622) (by decide +kernel)⟩
theorem lw_p6 : lw_okq (⟨"RhymeLaw", "isNoLineNorAll", "(I)Z"⟩, 12) := ⟨⟨by decide +kernel, by decide +kernel⟩, List.mem_of_getElem? (i := 22) (by decide +kernel), List.mem_of_getElem? (i := 701) (by decide +kernel), List.mem_of_getElem? (i := 702) (by decide +kernel)⟩
theorem lw_p7 : lw_okq (⟨"RhymeLaw$Mending", "weigh", "(LRhymeLaw$Tale;III)V"⟩, 2) := ⟨⟨by decide +kernel, by decide +kernel⟩, List.mem_of_getElem? (i := 101) (by decide +kernel), List.mem_of_getElem? (i := 723) (by decide +kernel), List.mem_of_getElem? (i := 724) (by decide +kernel)⟩
theorem lw_p8 : lw_okq (⟨"RhymeLaw$Mending", "best", "(LRhymeLaw$Words;III)I"⟩, 2) := ⟨⟨by decide +kernel, by decide +kernel⟩, List.mem_of_getElem? (i := 101) (by decide +kernel), List.mem_of_getElem? (i := 737) (by decide +kernel), List.mem_of_getElem? (i := 738) (by decide +kernel)⟩
theorem lw_p9 : lw_okq (⟨"RhymeLaw$Mending", "costAt", "(II)I"⟩, 2) := ⟨⟨by decide +kernel, by decide +kernel⟩, List.mem_of_getElem? (i := 101) (by decide +kernel), List.mem_of_getElem? (i := 741) (by decide +kernel), List.mem_of_getElem? (i := 742) (by decide +kernel)⟩
theorem lw_p10 : lw_okq (⟨"RhymeLaw$Choice", "hasThings", "()Z"⟩, 6) := ⟨⟨by decide +kernel, by decide +kernel⟩, List.mem_of_getElem? (i := 128) (by decide +kernel), List.mem_of_getElem? (i := 769) (by decide +kernel), List.mem_of_getElem? (i := 770) (by decide +kernel)⟩
theorem lw_p11 : lw_okq (⟨"RhymeLaw$Choice", "stockSize", "()I"⟩, 6) := ⟨⟨by decide +kernel, by decide +kernel⟩, List.mem_of_getElem? (i := 128) (by decide +kernel), List.mem_of_getElem? (i := 774) (by decide +kernel), List.mem_of_getElem? (i := 775) (by decide +kernel)⟩
theorem lw_p12 : lw_okq (⟨"RhymeLaw$Choice", "lay", "(II)Z"⟩, 6) := ⟨⟨by decide +kernel, by decide +kernel⟩, List.mem_of_getElem? (i := 128) (by decide +kernel), List.mem_of_getElem? (i := 778) (by decide +kernel), List.mem_of_getElem? (i := 779) (by decide +kernel)⟩
theorem lw_p13 : lw_okq (⟨"RhymeLaw", "isMixedLaw", "(II)Z"⟩, 12) := ⟨⟨by decide +kernel, by decide +kernel⟩, List.mem_of_getElem? (i := 22) (by decide +kernel), List.mem_of_getElem? (i := 811) (by decide +kernel), List.mem_of_getElem? (i := 812) (by decide +kernel)⟩
theorem lw_p14 : lw_okq (⟨"RhymeLaw", "isLoosed", "(IIIII)Z"⟩, 12) := ⟨⟨by decide +kernel, by decide +kernel⟩, List.mem_of_getElem? (i := 22) (by decide +kernel), List.mem_of_getElem? (i := 823) (by decide +kernel), List.mem_of_getElem? (i := 824) (by decide +kernel)⟩
theorem lw_p15 : lw_okq (⟨"RhymeLaw$Guess", "weigh", "(LRhymeLaw$Tale;IIIZ)V"⟩, 2) := ⟨⟨by decide +kernel, by decide +kernel⟩, List.mem_of_getElem? (i := 114) (by decide +kernel), List.mem_of_getElem? (i := 845) (by decide +kernel), List.mem_of_getElem? (i := 846) (by decide +kernel)⟩
def lw_privs_1 : List (MethodName × Nat) := [(⟨"RhymeLaw$Text", "behind", "(III)I"⟩, 5), (⟨"RhymeLaw$Text", "byteAt", "(I)I"⟩, 5), (⟨"RhymeLaw$Paper", "lay", "(IIII)V"⟩, 5), (⟨"RhymeLaw", "isNoView", "(II)Z"⟩, 12), (⟨"RhymeLaw", "view", "(II)LRhymeLaw$Verdict;"⟩, 12), (⟨"RhymeLaw$Verdict", "enter", "(IIII)V"⟩, 5), (⟨"RhymeLaw", "isNoLineNorAll", "(I)Z"⟩, 12), (⟨"RhymeLaw$Mending", "weigh", "(LRhymeLaw$Tale;III)V"⟩, 2), (⟨"RhymeLaw$Mending", "best", "(LRhymeLaw$Words;III)I"⟩, 2), (⟨"RhymeLaw$Mending", "costAt", "(II)I"⟩, 2), (⟨"RhymeLaw$Choice", "hasThings", "()Z"⟩, 6), (⟨"RhymeLaw$Choice", "stockSize", "()I"⟩, 6), (⟨"RhymeLaw$Choice", "lay", "(II)Z"⟩, 6), (⟨"RhymeLaw", "isMixedLaw", "(II)Z"⟩, 12), (⟨"RhymeLaw", "isLoosed", "(IIIII)Z"⟩, 12), (⟨"RhymeLaw$Guess", "weigh", "(LRhymeLaw$Tale;IIIZ)V"⟩, 2)]
theorem lw_r1 : ∀ q ∈ lw_privs_1, lw_okq q := List.forall_mem_cons.mpr ⟨lw_p0, List.forall_mem_cons.mpr ⟨lw_p1, List.forall_mem_cons.mpr ⟨lw_p2, List.forall_mem_cons.mpr ⟨lw_p3, List.forall_mem_cons.mpr ⟨lw_p4, List.forall_mem_cons.mpr ⟨lw_p5, List.forall_mem_cons.mpr ⟨lw_p6, List.forall_mem_cons.mpr ⟨lw_p7, List.forall_mem_cons.mpr ⟨lw_p8, List.forall_mem_cons.mpr ⟨lw_p9, List.forall_mem_cons.mpr ⟨lw_p10, List.forall_mem_cons.mpr ⟨lw_p11, List.forall_mem_cons.mpr ⟨lw_p12, List.forall_mem_cons.mpr ⟨lw_p13, List.forall_mem_cons.mpr ⟨lw_p14, List.forall_mem_cons.mpr ⟨lw_p15, fun _ h => absurd h List.not_mem_nil⟩⟩⟩⟩⟩⟩⟩⟩⟩⟩⟩⟩⟩⟩⟩⟩
theorem lw_p16 : lw_okq (⟨"RhymeLaw$Guess", "sum", "(LRhymeLaw$Words;III)J"⟩, 2) := ⟨⟨by decide +kernel, by decide +kernel⟩, List.mem_of_getElem? (i := 114) (by decide +kernel), List.mem_of_getElem? (i := 855) (by decide +kernel), List.mem_of_getElem? (i := 856) (by decide +kernel)⟩
theorem lw_p17 : lw_okq (⟨"RhymeLaw$Guess", "waysAt", "(II)J"⟩, 2) := ⟨⟨by decide +kernel, by decide +kernel⟩, List.mem_of_getElem? (i := 114) (by decide +kernel), List.mem_of_getElem? (i := 860) (by decide +kernel), List.mem_of_getElem? (i := 861) (by decide +kernel)⟩
theorem lw_p18 : lw_okq (⟨"RhymeLaw$Guess", "setWays", "(IIJ)V"⟩, 2) := ⟨⟨by decide +kernel, by decide +kernel⟩, List.mem_of_getElem? (i := 114) (by decide +kernel), List.mem_of_getElem? (i := 864) (by decide +kernel), List.mem_of_getElem? (i := 865) (by decide +kernel)⟩
theorem lw_p19 : lw_okq (⟨"RhymeLaw$Guess", "isReached", "(LRhymeLaw$Words;III)Z"⟩, 2) := ⟨⟨by decide +kernel, by decide +kernel⟩, List.mem_of_getElem? (i := 114) (by decide +kernel), List.mem_of_getElem? (i := 873) (by decide +kernel), List.mem_of_getElem? (i := 874) (by decide +kernel)⟩
theorem lw_p20 : lw_okq (⟨"RhymeLaw", "asLine", "(I)I"⟩, 12) := ⟨⟨by decide +kernel, by decide +kernel⟩, List.mem_of_getElem? (i := 22) (by decide +kernel), List.mem_of_getElem? (i := 885) (by decide +kernel), List.mem_of_getElem? (i := 886) (by decide +kernel)⟩
theorem lw_p21 : lw_okq (⟨"RhymeLaw", "asOpening", "(I)I"⟩, 12) := ⟨⟨by decide +kernel, by decide +kernel⟩, List.mem_of_getElem? (i := 22) (by decide +kernel), List.mem_of_getElem? (i := 889) (by decide +kernel), List.mem_of_getElem? (i := 890) (by decide +kernel)⟩
theorem lw_p22 : lw_okq (⟨"RhymeLaw", "asRhymed", "(I)I"⟩, 12) := ⟨⟨by decide +kernel, by decide +kernel⟩, List.mem_of_getElem? (i := 22) (by decide +kernel), List.mem_of_getElem? (i := 894) (by decide +kernel), List.mem_of_getElem? (i := 895) (by decide +kernel)⟩
theorem lw_p23 : lw_okq (⟨"RhymeLaw", "asAnchor", "(I)I"⟩, 12) := ⟨⟨by decide +kernel, by decide +kernel⟩, List.mem_of_getElem? (i := 22) (by decide +kernel), List.mem_of_getElem? (i := 899) (by decide +kernel), List.mem_of_getElem? (i := 900) (by decide +kernel)⟩
theorem lw_p24 : lw_okq (⟨"RhymeLaw", "asKey", "(I)I"⟩, 12) := ⟨⟨by decide +kernel, by decide +kernel⟩, List.mem_of_getElem? (i := 22) (by decide +kernel), List.mem_of_getElem? (i := 904) (by decide +kernel), List.mem_of_getElem? (i := 905) (by decide +kernel)⟩
theorem lw_p25 : lw_okq (⟨"RhymeLaw", "asFallen", "(I)I"⟩, 12) := ⟨⟨by decide +kernel, by decide +kernel⟩, List.mem_of_getElem? (i := 22) (by decide +kernel), List.mem_of_getElem? (i := 909) (by decide +kernel), List.mem_of_getElem? (i := 910) (by decide +kernel)⟩
theorem lw_p26 : lw_okq (⟨"RhymeLaw", "imageOf", "(I)LRhymeLaw$Paper;"⟩, 12) := ⟨⟨by decide +kernel, by decide +kernel⟩, List.mem_of_getElem? (i := 22) (by decide +kernel), List.mem_of_getElem? (i := 918) (by decide +kernel), List.mem_of_getElem? (i := 919) (by decide +kernel)⟩
theorem lw_p27 : lw_okq (⟨"RhymeLawModel", "advances", "()V"⟩, 38) := ⟨⟨by decide +kernel, by decide +kernel⟩, List.mem_of_getElem? (i := 938) (by decide +kernel), List.mem_of_getElem? (i := 1076) (by decide +kernel), List.mem_of_getElem? (i := 1077) (by decide +kernel)⟩
theorem lw_p28 : lw_okq (⟨"RhymeLawModel", "byteAt", "(I)I"⟩, 38) := ⟨⟨by decide +kernel, by decide +kernel⟩, List.mem_of_getElem? (i := 938) (by decide +kernel), List.mem_of_getElem? (i := 1080) (by decide +kernel), List.mem_of_getElem? (i := 1081) (by decide +kernel)⟩
theorem lw_p29 : lw_okq (⟨"RhymeLawModel", "isWell", "()Z"⟩, 38) := ⟨⟨by decide +kernel, by decide +kernel⟩, List.mem_of_getElem? (i := 938) (by decide +kernel), List.mem_of_getElem? (i := 1084) (by decide +kernel), List.mem_of_getElem? (i := 1085) (by decide +kernel)⟩
theorem lw_p30 : lw_okq (⟨"RhymeLawModel", "begins", "()I"⟩, 38) := ⟨⟨by decide +kernel, by decide +kernel⟩, List.mem_of_getElem? (i := 938) (by decide +kernel), List.mem_of_getElem? (i := 1088) (by decide +kernel), List.mem_of_getElem? (i := 1089) (by decide +kernel)⟩
theorem lw_p31 : lw_okq (⟨"RhymeLawModel", "says", "(IIIII)Z"⟩, 38) := ⟨⟨by decide +kernel, by decide +kernel⟩, List.mem_of_getElem? (i := 938) (by decide +kernel), List.mem_of_getElem? (i := 1092) (by decide +kernel), List.mem_of_getElem? (i := 1093) (by decide +kernel)⟩
def lw_privs_2 : List (MethodName × Nat) := [(⟨"RhymeLaw$Guess", "sum", "(LRhymeLaw$Words;III)J"⟩, 2), (⟨"RhymeLaw$Guess", "waysAt", "(II)J"⟩, 2), (⟨"RhymeLaw$Guess", "setWays", "(IIJ)V"⟩, 2), (⟨"RhymeLaw$Guess", "isReached", "(LRhymeLaw$Words;III)Z"⟩, 2), (⟨"RhymeLaw", "asLine", "(I)I"⟩, 12), (⟨"RhymeLaw", "asOpening", "(I)I"⟩, 12), (⟨"RhymeLaw", "asRhymed", "(I)I"⟩, 12), (⟨"RhymeLaw", "asAnchor", "(I)I"⟩, 12), (⟨"RhymeLaw", "asKey", "(I)I"⟩, 12), (⟨"RhymeLaw", "asFallen", "(I)I"⟩, 12), (⟨"RhymeLaw", "imageOf", "(I)LRhymeLaw$Paper;"⟩, 12), (⟨"RhymeLawModel", "advances", "()V"⟩, 38), (⟨"RhymeLawModel", "byteAt", "(I)I"⟩, 38), (⟨"RhymeLawModel", "isWell", "()Z"⟩, 38), (⟨"RhymeLawModel", "begins", "()I"⟩, 38), (⟨"RhymeLawModel", "says", "(IIIII)Z"⟩, 38)]
theorem lw_r2 : ∀ q ∈ lw_privs_2, lw_okq q := List.forall_mem_cons.mpr ⟨lw_p16, List.forall_mem_cons.mpr ⟨lw_p17, List.forall_mem_cons.mpr ⟨lw_p18, List.forall_mem_cons.mpr ⟨lw_p19, List.forall_mem_cons.mpr ⟨lw_p20, List.forall_mem_cons.mpr ⟨lw_p21, List.forall_mem_cons.mpr ⟨lw_p22, List.forall_mem_cons.mpr ⟨lw_p23, List.forall_mem_cons.mpr ⟨lw_p24, List.forall_mem_cons.mpr ⟨lw_p25, List.forall_mem_cons.mpr ⟨lw_p26, List.forall_mem_cons.mpr ⟨lw_p27, List.forall_mem_cons.mpr ⟨lw_p28, List.forall_mem_cons.mpr ⟨lw_p29, List.forall_mem_cons.mpr ⟨lw_p30, List.forall_mem_cons.mpr ⟨lw_p31, fun _ h => absurd h List.not_mem_nil⟩⟩⟩⟩⟩⟩⟩⟩⟩⟩⟩⟩⟩⟩⟩⟩
theorem lw_p32 : lw_okq (⟨"RhymeLawModel", "wants", "(Z)V"⟩, 38) := ⟨⟨by decide +kernel, by decide +kernel⟩, List.mem_of_getElem? (i := 938) (by decide +kernel), List.mem_of_getElem? (i := 1096) (by decide +kernel), List.mem_of_getElem? (i := 1097) (by decide +kernel)⟩
theorem lw_p33 : lw_okq (⟨"RhymeLawModel", "readsItem", "(I)V"⟩, 38) := ⟨⟨by decide +kernel, by decide +kernel⟩, List.mem_of_getElem? (i := 938) (by decide +kernel), List.mem_of_getElem? (i := 1100) (by decide +kernel), List.mem_of_getElem? (i := 1101) (by decide +kernel)⟩
theorem lw_p34 : lw_okq (⟨"RhymeLawModel", "readsWord", "()V"⟩, 38) := ⟨⟨by decide +kernel, by decide +kernel⟩, List.mem_of_getElem? (i := 938) (by decide +kernel), List.mem_of_getElem? (i := 1104) (by decide +kernel), List.mem_of_getElem? (i := 1105) (by decide +kernel)⟩
theorem lw_p35 : lw_okq (⟨"RhymeLawModel", "number", "(II)I"⟩, 38) := ⟨⟨by decide +kernel, by decide +kernel⟩, List.mem_of_getElem? (i := 938) (by decide +kernel), List.mem_of_getElem? (i := 1108) (by decide +kernel), List.mem_of_getElem? (i := 1109) (by decide +kernel)⟩
theorem lw_p36 : lw_okq (⟨"RhymeLawModel", "readsForm", "()V"⟩, 38) := ⟨⟨by decide +kernel, by decide +kernel⟩, List.mem_of_getElem? (i := 938) (by decide +kernel), List.mem_of_getElem? (i := 1112) (by decide +kernel), List.mem_of_getElem? (i := 1113) (by decide +kernel)⟩
theorem lw_p37 : lw_okq (⟨"RhymeLawModel", "areLetters", "(I)Z"⟩, 38) := ⟨⟨by decide +kernel, by decide +kernel⟩, List.mem_of_getElem? (i := 938) (by decide +kernel), List.mem_of_getElem? (i := 1116) (by decide +kernel), List.mem_of_getElem? (i := 1117) (by decide +kernel)⟩
theorem lw_p38 : lw_okq (⟨"RhymeLawModel", "readsMetre", "()V"⟩, 38) := ⟨⟨by decide +kernel, by decide +kernel⟩, List.mem_of_getElem? (i := 938) (by decide +kernel), List.mem_of_getElem? (i := 1120) (by decide +kernel), List.mem_of_getElem? (i := 1121) (by decide +kernel)⟩
theorem lw_p39 : lw_okq (⟨"RhymeLawModel", "readsLine", "([II)V"⟩, 38) := ⟨⟨by decide +kernel, by decide +kernel⟩, List.mem_of_getElem? (i := 938) (by decide +kernel), List.mem_of_getElem? (i := 1124) (by decide +kernel), List.mem_of_getElem? (i := 1125) (by decide +kernel)⟩
theorem lw_p40 : lw_okq (⟨"RhymeLawModel", "isWord", "(I)Z"⟩, 38) := ⟨⟨by decide +kernel, by decide +kernel⟩, List.mem_of_getElem? (i := 938) (by decide +kernel), List.mem_of_getElem? (i := 1132) (by decide +kernel), List.mem_of_getElem? (i := 1133) (by decide +kernel)⟩
theorem lw_p41 : lw_okq (⟨"RhymeLawModel", "isForm", "(II)Z"⟩, 38) := ⟨⟨by decide +kernel, by decide +kernel⟩, List.mem_of_getElem? (i := 938) (by decide +kernel), List.mem_of_getElem? (i := 1140) (by decide +kernel), List.mem_of_getElem? (i := 1141) (by decide +kernel)⟩
theorem lw_p42 : lw_okq (⟨"RhymeLawModel", "letterOf", "(II)I"⟩, 38) := ⟨⟨by decide +kernel, by decide +kernel⟩, List.mem_of_getElem? (i := 938) (by decide +kernel), List.mem_of_getElem? (i := 1144) (by decide +kernel), List.mem_of_getElem? (i := 1145) (by decide +kernel)⟩
theorem lw_p43 : lw_okq (⟨"RhymeLawModel", "isLine", "(I)Z"⟩, 38) := ⟨⟨by decide +kernel, by decide +kernel⟩, List.mem_of_getElem? (i := 938) (by decide +kernel), List.mem_of_getElem? (i := 1156) (by decide +kernel), List.mem_of_getElem? (i := 1157) (by decide +kernel)⟩
theorem lw_p44 : lw_okq (⟨"RhymeLawModel", "judgesPaper", "(II)V"⟩, 38) := ⟨⟨by decide +kernel, by decide +kernel⟩, List.mem_of_getElem? (i := 938) (by decide +kernel), List.mem_of_getElem? (i := 1180) (by decide +kernel), List.mem_of_getElem? (i := 1181) (by decide +kernel)⟩
theorem lw_p45 : lw_okq (⟨"RhymeLawModel", "lays", "()V"⟩, 38) := ⟨⟨by decide +kernel, by decide +kernel⟩, List.mem_of_getElem? (i := 938) (by decide +kernel), List.mem_of_getElem? (i := 1184) (by decide +kernel), List.mem_of_getElem? (i := 1185) (by decide +kernel)⟩
theorem lw_p46 : lw_okq (⟨"RhymeLawModel", "hears", "(I)V"⟩, 38) := ⟨⟨by decide +kernel, by decide +kernel⟩, List.mem_of_getElem? (i := 938) (by decide +kernel), List.mem_of_getElem? (i := 1188) (by decide +kernel), List.mem_of_getElem? (i := 1189) (by decide +kernel)⟩
theorem lw_p47 : lw_okq (⟨"RhymeLawModel", "judges", "(I)V"⟩, 38) := ⟨⟨by decide +kernel, by decide +kernel⟩, List.mem_of_getElem? (i := 938) (by decide +kernel), List.mem_of_getElem? (i := 1192) (by decide +kernel), List.mem_of_getElem? (i := 1193) (by decide +kernel)⟩
def lw_privs_3 : List (MethodName × Nat) := [(⟨"RhymeLawModel", "wants", "(Z)V"⟩, 38), (⟨"RhymeLawModel", "readsItem", "(I)V"⟩, 38), (⟨"RhymeLawModel", "readsWord", "()V"⟩, 38), (⟨"RhymeLawModel", "number", "(II)I"⟩, 38), (⟨"RhymeLawModel", "readsForm", "()V"⟩, 38), (⟨"RhymeLawModel", "areLetters", "(I)Z"⟩, 38), (⟨"RhymeLawModel", "readsMetre", "()V"⟩, 38), (⟨"RhymeLawModel", "readsLine", "([II)V"⟩, 38), (⟨"RhymeLawModel", "isWord", "(I)Z"⟩, 38), (⟨"RhymeLawModel", "isForm", "(II)Z"⟩, 38), (⟨"RhymeLawModel", "letterOf", "(II)I"⟩, 38), (⟨"RhymeLawModel", "isLine", "(I)Z"⟩, 38), (⟨"RhymeLawModel", "judgesPaper", "(II)V"⟩, 38), (⟨"RhymeLawModel", "lays", "()V"⟩, 38), (⟨"RhymeLawModel", "hears", "(I)V"⟩, 38), (⟨"RhymeLawModel", "judges", "(I)V"⟩, 38)]
theorem lw_r3 : ∀ q ∈ lw_privs_3, lw_okq q := List.forall_mem_cons.mpr ⟨lw_p32, List.forall_mem_cons.mpr ⟨lw_p33, List.forall_mem_cons.mpr ⟨lw_p34, List.forall_mem_cons.mpr ⟨lw_p35, List.forall_mem_cons.mpr ⟨lw_p36, List.forall_mem_cons.mpr ⟨lw_p37, List.forall_mem_cons.mpr ⟨lw_p38, List.forall_mem_cons.mpr ⟨lw_p39, List.forall_mem_cons.mpr ⟨lw_p40, List.forall_mem_cons.mpr ⟨lw_p41, List.forall_mem_cons.mpr ⟨lw_p42, List.forall_mem_cons.mpr ⟨lw_p43, List.forall_mem_cons.mpr ⟨lw_p44, List.forall_mem_cons.mpr ⟨lw_p45, List.forall_mem_cons.mpr ⟨lw_p46, List.forall_mem_cons.mpr ⟨lw_p47, fun _ h => absurd h List.not_mem_nil⟩⟩⟩⟩⟩⟩⟩⟩⟩⟩⟩⟩⟩⟩⟩⟩
theorem lw_p48 : lw_okq (⟨"RhymeLawModel", "isMetre", "(III)Z"⟩, 38) := ⟨⟨by decide +kernel, by decide +kernel⟩, List.mem_of_getElem? (i := 938) (by decide +kernel), List.mem_of_getElem? (i := 1196) (by decide +kernel), List.mem_of_getElem? (i := 1197) (by decide +kernel)⟩
theorem lw_p49 : lw_okq (⟨"RhymeLawModel", "holds", "(IZ)Z"⟩, 38) := ⟨⟨by decide +kernel, by decide +kernel⟩, List.mem_of_getElem? (i := 938) (by decide +kernel), List.mem_of_getElem? (i := 1200) (by decide +kernel), List.mem_of_getElem? (i := 1201) (by decide +kernel)⟩
theorem lw_p50 : lw_okq (⟨"RhymeLawModel", "isLaw", "(I)Z"⟩, 38) := ⟨⟨by decide +kernel, by decide +kernel⟩, List.mem_of_getElem? (i := 938) (by decide +kernel), List.mem_of_getElem? (i := 1208) (by decide +kernel), List.mem_of_getElem? (i := 1209) (by decide +kernel)⟩
theorem lw_p51 : lw_okq (⟨"RhymeLawModel", "emptyLine", "()I"⟩, 38) := ⟨⟨by decide +kernel, by decide +kernel⟩, List.mem_of_getElem? (i := 938) (by decide +kernel), List.mem_of_getElem? (i := 1212) (by decide +kernel), List.mem_of_getElem? (i := 1213) (by decide +kernel)⟩
theorem lw_p52 : lw_okq (⟨"RhymeLawModel", "boundBy", "()I"⟩, 38) := ⟨⟨by decide +kernel, by decide +kernel⟩, List.mem_of_getElem? (i := 938) (by decide +kernel), List.mem_of_getElem? (i := 1224) (by decide +kernel), List.mem_of_getElem? (i := 1225) (by decide +kernel)⟩
theorem lw_p53 : lw_okq (⟨"RhymeLawModel", "leftBy", "(I)I"⟩, 38) := ⟨⟨by decide +kernel, by decide +kernel⟩, List.mem_of_getElem? (i := 938) (by decide +kernel), List.mem_of_getElem? (i := 1232) (by decide +kernel), List.mem_of_getElem? (i := 1233) (by decide +kernel)⟩
theorem lw_p54 : lw_okq (⟨"RhymeLawModel", "fewestAll", "(I)I"⟩, 38) := ⟨⟨by decide +kernel, by decide +kernel⟩, List.mem_of_getElem? (i := 938) (by decide +kernel), List.mem_of_getElem? (i := 1247) (by decide +kernel), List.mem_of_getElem? (i := 1248) (by decide +kernel)⟩
theorem lw_p55 : lw_okq (⟨"RhymeLawModel", "fewestOf", "(III)I"⟩, 38) := ⟨⟨by decide +kernel, by decide +kernel⟩, List.mem_of_getElem? (i := 938) (by decide +kernel), List.mem_of_getElem? (i := 1251) (by decide +kernel), List.mem_of_getElem? (i := 1252) (by decide +kernel)⟩
theorem lw_p56 : lw_okq (⟨"RhymeLawModel", "fills", "(II)V"⟩, 38) := ⟨⟨by decide +kernel, by decide +kernel⟩, List.mem_of_getElem? (i := 938) (by decide +kernel), List.mem_of_getElem? (i := 1259) (by decide +kernel), List.mem_of_getElem? (i := 1260) (by decide +kernel)⟩
theorem lw_p57 : lw_okq (⟨"RhymeLawModel", "isInRow", "(II)Z"⟩, 38) := ⟨⟨by decide +kernel, by decide +kernel⟩, List.mem_of_getElem? (i := 938) (by decide +kernel), List.mem_of_getElem? (i := 1263) (by decide +kernel), List.mem_of_getElem? (i := 1264) (by decide +kernel)⟩
theorem lw_p58 : lw_okq (⟨"RhymeLawModel", "laysRow", "(I)V"⟩, 38) := ⟨⟨by decide +kernel, by decide +kernel⟩, List.mem_of_getElem? (i := 938) (by decide +kernel), List.mem_of_getElem? (i := 1267) (by decide +kernel), List.mem_of_getElem? (i := 1268) (by decide +kernel)⟩
theorem lw_p59 : lw_okq (⟨"RhymeLawModel", "goesOn", "(I)Z"⟩, 38) := ⟨⟨by decide +kernel, by decide +kernel⟩, List.mem_of_getElem? (i := 938) (by decide +kernel), List.mem_of_getElem? (i := 1271) (by decide +kernel), List.mem_of_getElem? (i := 1272) (by decide +kernel)⟩
theorem lw_p60 : lw_okq (⟨"RhymeLawModel", "waysAll", "(I)J"⟩, 38) := ⟨⟨by decide +kernel, by decide +kernel⟩, List.mem_of_getElem? (i := 938) (by decide +kernel), List.mem_of_getElem? (i := 1292) (by decide +kernel), List.mem_of_getElem? (i := 1293) (by decide +kernel)⟩
theorem lw_p61 : lw_okq (⟨"RhymeLawModel", "waysOf", "(III)J"⟩, 38) := ⟨⟨by decide +kernel, by decide +kernel⟩, List.mem_of_getElem? (i := 938) (by decide +kernel), List.mem_of_getElem? (i := 1296) (by decide +kernel), List.mem_of_getElem? (i := 1297) (by decide +kernel)⟩
def lw_privs_4 : List (MethodName × Nat) := [(⟨"RhymeLawModel", "isMetre", "(III)Z"⟩, 38), (⟨"RhymeLawModel", "holds", "(IZ)Z"⟩, 38), (⟨"RhymeLawModel", "isLaw", "(I)Z"⟩, 38), (⟨"RhymeLawModel", "emptyLine", "()I"⟩, 38), (⟨"RhymeLawModel", "boundBy", "()I"⟩, 38), (⟨"RhymeLawModel", "leftBy", "(I)I"⟩, 38), (⟨"RhymeLawModel", "fewestAll", "(I)I"⟩, 38), (⟨"RhymeLawModel", "fewestOf", "(III)I"⟩, 38), (⟨"RhymeLawModel", "fills", "(II)V"⟩, 38), (⟨"RhymeLawModel", "isInRow", "(II)Z"⟩, 38), (⟨"RhymeLawModel", "laysRow", "(I)V"⟩, 38), (⟨"RhymeLawModel", "goesOn", "(I)Z"⟩, 38), (⟨"RhymeLawModel", "waysAll", "(I)J"⟩, 38), (⟨"RhymeLawModel", "waysOf", "(III)J"⟩, 38)]
theorem lw_r4 : ∀ q ∈ lw_privs_4, lw_okq q := List.forall_mem_cons.mpr ⟨lw_p48, List.forall_mem_cons.mpr ⟨lw_p49, List.forall_mem_cons.mpr ⟨lw_p50, List.forall_mem_cons.mpr ⟨lw_p51, List.forall_mem_cons.mpr ⟨lw_p52, List.forall_mem_cons.mpr ⟨lw_p53, List.forall_mem_cons.mpr ⟨lw_p54, List.forall_mem_cons.mpr ⟨lw_p55, List.forall_mem_cons.mpr ⟨lw_p56, List.forall_mem_cons.mpr ⟨lw_p57, List.forall_mem_cons.mpr ⟨lw_p58, List.forall_mem_cons.mpr ⟨lw_p59, List.forall_mem_cons.mpr ⟨lw_p60, List.forall_mem_cons.mpr ⟨lw_p61, fun _ h => absurd h List.not_mem_nil⟩⟩⟩⟩⟩⟩⟩⟩⟩⟩⟩⟩⟩⟩
def lw_privs : List (MethodName × Nat) := lw_privs_1 ++ (lw_privs_2 ++ (lw_privs_3 ++ (lw_privs_4)))
def lw_tbl : List Cond := k2_sels lw_privs ++ tables_1
theorem lw_privs_ok : ∀ q ∈ lw_privs, lw_okq q := by
  show ∀ q ∈ lw_privs_1 ++ (lw_privs_2 ++ (lw_privs_3 ++ (lw_privs_4))), lw_okq q
  exact List.forall_mem_append.mpr ⟨lw_r1, List.forall_mem_append.mpr ⟨lw_r2, List.forall_mem_append.mpr ⟨lw_r3, lw_r4⟩⟩⟩
end
section
def RX0 : String := "RhymeLaw$Choice"
def TX0 : u_T := fun k => match k with
  | 0 => ("RhymeLaw$Choice", "row", "LRhymeLaw$Paper;", true)
  | 1 => ("RhymeLaw$Choice", "picks", "[I", true)
  | 2 => ("RhymeLaw$Choice", "tale", "LRhymeLaw$Tale;", false)
  | 3 => ("RhymeLaw$Choice", "form", "I", false)
  | 4 => ("RhymeLaw$Choice", "dialect", "I", false)
  | _ => ("RhymeLaw$Choice", "things", "I", false)
def tyX0 : Nat → FieldType := fun k => match k with
  | 0 => .object "RhymeLaw$Paper"
  | 1 => .array .int
  | 2 => .object "RhymeLaw$Tale"
  | 3 => .int
  | 4 => .int
  | _ => .int
abbrev wsX00 : List Cond := u_ws RX0 TX0 6
theorem nmX0 : ∀ a, a < 6 → ∀ b, b < 6 → a ≠ b → (TX0 a).2.1 ≠ (TX0 b).2.1 := by decide +kernel
theorem tyX0_ok : ∀ k, k < 6 → parseFieldDescriptor (TX0 k).2.2.1 = some (tyX0 k) := by decide +kernel
abbrev cX0_init : ByteArray := prog_2_method_1_code
def yX0_init : MethodName := ⟨RX0, "<init>", "()V"⟩
abbrev cX0_find : ByteArray := prog_2_method_2_code
def yX0_find : MethodName := ⟨RX0, "find", "(LRhymeLaw$Tale;III)I"⟩
abbrev cX0_pickAt : ByteArray := prog_2_method_3_code
def yX0_pickAt : MethodName := ⟨RX0, "pickAt", "(I)I"⟩
abbrev cX0_extend : ByteArray := prog_2_method_4_code
def yX0_extend : MethodName := ⟨RX0, "extend", "(LRhymeLaw$Choice;III)Z"⟩
abbrev cX0_stockSize : ByteArray := prog_2_method_5_code
def yX0_stockSize : MethodName := ⟨RX0, "stockSize", "()I"⟩
abbrev cX0_lay : ByteArray := prog_2_method_6_code
def yX0_lay : MethodName := ⟨RX0, "lay", "(II)Z"⟩
abbrev cX0_hasThings : ByteArray := prog_2_method_7_code
def yX0_hasThings : MethodName := ⟨RX0, "hasThings", "()Z"⟩
def RX1 : String := "RhymeLaw$Forms"
def TX1 : u_T := fun k => match k with
  | 0 => ("RhymeLaw$Forms", "letters", "[I", true)
  | 1 => ("RhymeLaw$Forms", "lengths", "[I", true)
  | _ => ("RhymeLaw$Forms", "size", "I", false)
def tyX1 : Nat → FieldType := fun k => match k with
  | 0 => .array .int
  | 1 => .array .int
  | _ => .int
abbrev wsX10 : List Cond := u_ws RX1 TX1 3
theorem nmX1 : ∀ a, a < 3 → ∀ b, b < 3 → a ≠ b → (TX1 a).2.1 ≠ (TX1 b).2.1 := by decide +kernel
theorem tyX1_ok : ∀ k, k < 3 → parseFieldDescriptor (TX1 k).2.2.1 = some (tyX1 k) := by decide +kernel
abbrev cX1_init : ByteArray := prog_3_method_1_code
def yX1_init : MethodName := ⟨RX1, "<init>", "()V"⟩
abbrev cX1_size : ByteArray := prog_3_method_2_code
def yX1_size : MethodName := ⟨RX1, "size", "()I"⟩
abbrev cX1_isFull : ByteArray := prog_3_method_3_code
def yX1_isFull : MethodName := ⟨RX1, "isFull", "()Z"⟩
abbrev cX1_has : ByteArray := prog_3_method_4_code
def yX1_has : MethodName := ⟨RX1, "has", "(I)Z"⟩
abbrev cX1_wipe : ByteArray := prog_3_method_5_code
def yX1_wipe : MethodName := ⟨RX1, "wipe", "()V"⟩
abbrev cX1_begin : ByteArray := prog_3_method_6_code
def yX1_begin : MethodName := ⟨RX1, "begin", "()V"⟩
abbrev cX1_addLetter : ByteArray := prog_3_method_7_code
def yX1_addLetter : MethodName := ⟨RX1, "addLetter", "(I)V"⟩
abbrev cX1_letter : ByteArray := prog_3_method_8_code
def yX1_letter : MethodName := ⟨RX1, "letter", "(II)I"⟩
abbrev cX1_ahead : ByteArray := prog_3_method_9_code
def yX1_ahead : MethodName := ⟨RX1, "ahead", "(II)I"⟩
abbrev cX1_behind : ByteArray := prog_3_method_10_code
def yX1_behind : MethodName := ⟨RX1, "behind", "(III)I"⟩
abbrev cX1_pairs : ByteArray := prog_3_method_11_code
def yX1_pairs : MethodName := ⟨RX1, "pairs", "(II)Z"⟩
def RX2 : String := "RhymeLaw$Guess"
def TX2 : u_T := fun k => match k with
  | 0 => ("RhymeLaw$Guess", "ways", "[J", true)
  | _ => ("RhymeLaw$Guess", "possible", "[I", true)
def tyX2 : Nat → FieldType := fun k => match k with
  | 0 => .array .long
  | _ => .array .int
abbrev wsX20 : List Cond := u_ws RX2 TX2 2
theorem nmX2 : ∀ a, a < 2 → ∀ b, b < 2 → a ≠ b → (TX2 a).2.1 ≠ (TX2 b).2.1 := by decide +kernel
theorem tyX2_ok : ∀ k, k < 2 → parseFieldDescriptor (TX2 k).2.2.1 = some (tyX2 k) := by decide +kernel
abbrev cX2_init : ByteArray := prog_4_method_1_code
def yX2_init : MethodName := ⟨RX2, "<init>", "()V"⟩
abbrev cX2_waysOf : ByteArray := prog_4_method_2_code
def yX2_waysOf : MethodName := ⟨RX2, "waysOf", "(LRhymeLaw$Tale;III)J"⟩
abbrev cX2_wordsOf : ByteArray := prog_4_method_3_code
def yX2_wordsOf : MethodName := ⟨RX2, "wordsOf", "(LRhymeLaw$Tale;III)I"⟩
abbrev cX2_weigh : ByteArray := prog_4_method_4_code
def yX2_weigh : MethodName := ⟨RX2, "weigh", "(LRhymeLaw$Tale;IIIZ)V"⟩
abbrev cX2_sum : ByteArray := prog_4_method_5_code
def yX2_sum : MethodName := ⟨RX2, "sum", "(LRhymeLaw$Words;III)J"⟩
abbrev cX2_isReached : ByteArray := prog_4_method_6_code
def yX2_isReached : MethodName := ⟨RX2, "isReached", "(LRhymeLaw$Words;III)Z"⟩
abbrev cX2_waysAt : ByteArray := prog_4_method_7_code
def yX2_waysAt : MethodName := ⟨RX2, "waysAt", "(II)J"⟩
abbrev cX2_setWays : ByteArray := prog_4_method_8_code
def yX2_setWays : MethodName := ⟨RX2, "setWays", "(IIJ)V"⟩
def RX3 : String := "RhymeLaw$Mending"
def TX3 : u_T := fun k => match k with
  | 0 => ("RhymeLaw$Mending", "costs", "[I", true)
  | _ => ("RhymeLaw$Mending", "row", "[I", true)
def tyX3 : Nat → FieldType := fun k => match k with
  | 0 => .array .int
  | _ => .array .int
abbrev wsX30 : List Cond := u_ws RX3 TX3 2
theorem nmX3 : ∀ a, a < 2 → ∀ b, b < 2 → a ≠ b → (TX3 a).2.1 ≠ (TX3 b).2.1 := by decide +kernel
theorem tyX3_ok : ∀ k, k < 2 → parseFieldDescriptor (TX3 k).2.2.1 = some (tyX3 k) := by decide +kernel
abbrev cX3_init : ByteArray := prog_5_method_1_code
def yX3_init : MethodName := ⟨RX3, "<init>", "()V"⟩
abbrev cX3_mend : ByteArray := prog_5_method_2_code
def yX3_mend : MethodName := ⟨RX3, "mend", "(LRhymeLaw$Tale;II)I"⟩
abbrev cX3_wordAt : ByteArray := prog_5_method_3_code
def yX3_wordAt : MethodName := ⟨RX3, "wordAt", "(I)I"⟩
abbrev cX3_weigh : ByteArray := prog_5_method_4_code
def yX3_weigh : MethodName := ⟨RX3, "weigh", "(LRhymeLaw$Tale;III)V"⟩
abbrev cX3_mayBecome : ByteArray := prog_5_method_5_code
def yX3_mayBecome : MethodName := ⟨RX3, "mayBecome", "(LRhymeLaw$Tale;III)Z"⟩
abbrev cX3_costAt : ByteArray := prog_5_method_6_code
def yX3_costAt : MethodName := ⟨RX3, "costAt", "(II)I"⟩
abbrev cX3_best : ByteArray := prog_5_method_7_code
def yX3_best : MethodName := ⟨RX3, "best", "(LRhymeLaw$Words;III)I"⟩
def RX4 : String := "RhymeLaw$Paper"
def TX4 : u_T := fun k => match k with
  | 0 => ("RhymeLaw$Paper", "words", "[I", true)
  | 1 => ("RhymeLaw$Paper", "things", "[I", true)
  | 2 => ("RhymeLaw$Paper", "befores", "[I", true)
  | 3 => ("RhymeLaw$Paper", "most", "I", true)
  | _ => ("RhymeLaw$Paper", "size", "I", false)
def tyX4 : Nat → FieldType := fun k => match k with
  | 0 => .array .int
  | 1 => .array .int
  | 2 => .array .int
  | 3 => .int
  | _ => .int
abbrev wsX40 : List Cond := u_ws RX4 TX4 5
theorem nmX4 : ∀ a, a < 5 → ∀ b, b < 5 → a ≠ b → (TX4 a).2.1 ≠ (TX4 b).2.1 := by decide +kernel
theorem tyX4_ok : ∀ k, k < 5 → parseFieldDescriptor (TX4 k).2.2.1 = some (tyX4 k) := by decide +kernel
abbrev cX4_init : ByteArray := prog_6_method_1_code
def yX4_init : MethodName := ⟨RX4, "<init>", "(I)V"⟩
abbrev cX4_size : ByteArray := prog_6_method_2_code
def yX4_size : MethodName := ⟨RX4, "size", "()I"⟩
abbrev cX4_isFull : ByteArray := prog_6_method_3_code
def yX4_isFull : MethodName := ⟨RX4, "isFull", "()Z"⟩
abbrev cX4_has : ByteArray := prog_6_method_4_code
def yX4_has : MethodName := ⟨RX4, "has", "(I)Z"⟩
abbrev cX4_wipe : ByteArray := prog_6_method_5_code
def yX4_wipe : MethodName := ⟨RX4, "wipe", "()V"⟩
abbrev cX4_cut : ByteArray := prog_6_method_6_code
def yX4_cut : MethodName := ⟨RX4, "cut", "(I)V"⟩
abbrev cX4_wordAt : ByteArray := prog_6_method_7_code
def yX4_wordAt : MethodName := ⟨RX4, "wordAt", "(I)I"⟩
abbrev cX4_thingAt : ByteArray := prog_6_method_8_code
def yX4_thingAt : MethodName := ⟨RX4, "thingAt", "(I)I"⟩
abbrev cX4_beforeAt : ByteArray := prog_6_method_9_code
def yX4_beforeAt : MethodName := ⟨RX4, "beforeAt", "(I)I"⟩
abbrev cX4_setWord : ByteArray := prog_6_method_10_code
def yX4_setWord : MethodName := ⟨RX4, "setWord", "(II)V"⟩
abbrev cX4_part : ByteArray := prog_6_method_11_code
def yX4_part : MethodName := ⟨RX4, "part", "(II)I"⟩
abbrev cX4_insert : ByteArray := prog_6_method_12_code
def yX4_insert : MethodName := ⟨RX4, "insert", "(IIII)V"⟩
abbrev cX4_remove : ByteArray := prog_6_method_13_code
def yX4_remove : MethodName := ⟨RX4, "remove", "(I)V"⟩
abbrev cX4_copyFrom : ByteArray := prog_6_method_14_code
def yX4_copyFrom : MethodName := ⟨RX4, "copyFrom", "(LRhymeLaw$Paper;)V"⟩
abbrev cX4_lay : ByteArray := prog_6_method_15_code
def yX4_lay : MethodName := ⟨RX4, "lay", "(IIII)V"⟩
def RX5 : String := "RhymeLaw$Reader"
def TX5 : u_T := fun k => match k with
  | _ => ("", "", "", false)
def tyX5 : Nat → FieldType := fun k => match k with
  | _ => .int
abbrev wsX50 : List Cond := u_ws RX5 TX5 0
theorem nmX5 : ∀ a, a < 0 → ∀ b, b < 0 → a ≠ b → (TX5 a).2.1 ≠ (TX5 b).2.1 := by decide +kernel
theorem tyX5_ok : ∀ k, k < 0 → parseFieldDescriptor (TX5 k).2.2.1 = some (tyX5 k) := by decide +kernel
abbrev cX5_tell : ByteArray := prog_7_method_2_code
def yX5_tell : MethodName := ⟨RX5, "tell", "(LRhymeLaw$Text;LRhymeLaw$Tale;)I"⟩
abbrev cX5_tellItem : ByteArray := prog_7_method_3_code
def yX5_tellItem : MethodName := ⟨RX5, "tellItem", "(LRhymeLaw$Text;LRhymeLaw$Tale;)Z"⟩
abbrev cX5_tellWord : ByteArray := prog_7_method_4_code
def yX5_tellWord : MethodName := ⟨RX5, "tellWord", "(LRhymeLaw$Text;LRhymeLaw$Words;)Z"⟩
abbrev cX5_tellForm : ByteArray := prog_7_method_5_code
def yX5_tellForm : MethodName := ⟨RX5, "tellForm", "(LRhymeLaw$Text;LRhymeLaw$Forms;)Z"⟩
abbrev cX5_tellMetre : ByteArray := prog_7_method_6_code
def yX5_tellMetre : MethodName := ⟨RX5, "tellMetre", "(LRhymeLaw$Text;LRhymeLaw$Tale;)Z"⟩
abbrev cX5_tellLine : ByteArray := prog_7_method_7_code
def yX5_tellLine : MethodName := ⟨RX5, "tellLine", "(LRhymeLaw$Text;LRhymeLaw$Words;LRhymeLaw$Paper;)Z"⟩
abbrev cX5_nextNumber : ByteArray := prog_7_method_8_code
def yX5_nextNumber : MethodName := ⟨RX5, "nextNumber", "(LRhymeLaw$Text;II)I"⟩
abbrev cX5_nextStop : ByteArray := prog_7_method_9_code
def yX5_nextStop : MethodName := ⟨RX5, "nextStop", "(LRhymeLaw$Text;)Z"⟩
def RX6 : String := "RhymeLaw$Rows"
def TX6 : u_T := fun k => match k with
  | _ => ("", "", "", false)
def tyX6 : Nat → FieldType := fun k => match k with
  | _ => .int
abbrev wsX60 : List Cond := u_ws RX6 TX6 0
theorem nmX6 : ∀ a, a < 0 → ∀ b, b < 0 → a ≠ b → (TX6 a).2.1 ≠ (TX6 b).2.1 := by decide +kernel
theorem tyX6_ok : ∀ k, k < 0 → parseFieldDescriptor (TX6 k).2.2.1 = some (tyX6 k) := by decide +kernel
abbrev cX6_at : ByteArray := prog_8_method_2_code
def yX6_at : MethodName := ⟨RX6, "at", "([II)I"⟩
abbrev cX6_set : ByteArray := prog_8_method_3_code
def yX6_set : MethodName := ⟨RX6, "set", "([III)V"⟩
def RX7 : String := "RhymeLaw$Tale"
def TX7 : u_T := fun k => match k with
  | 0 => ("RhymeLaw$Tale", "words", "LRhymeLaw$Words;", true)
  | 1 => ("RhymeLaw$Tale", "forms", "LRhymeLaw$Forms;", true)
  | 2 => ("RhymeLaw$Tale", "paper", "LRhymeLaw$Paper;", true)
  | 3 => ("RhymeLaw$Tale", "stock", "LRhymeLaw$Paper;", true)
  | _ => ("RhymeLaw$Tale", "metres", "[I", true)
def tyX7 : Nat → FieldType := fun k => match k with
  | 0 => .object "RhymeLaw$Words"
  | 1 => .object "RhymeLaw$Forms"
  | 2 => .object "RhymeLaw$Paper"
  | 3 => .object "RhymeLaw$Paper"
  | _ => .array .int
abbrev wsX70 : List Cond := u_ws RX7 TX7 5
theorem nmX7 : ∀ a, a < 5 → ∀ b, b < 5 → a ≠ b → (TX7 a).2.1 ≠ (TX7 b).2.1 := by decide +kernel
theorem tyX7_ok : ∀ k, k < 5 → parseFieldDescriptor (TX7 k).2.2.1 = some (tyX7 k) := by decide +kernel
abbrev cX7_init : ByteArray := prog_9_method_1_code
def yX7_init : MethodName := ⟨RX7, "<init>", "()V"⟩
abbrev cX7_wipe : ByteArray := prog_9_method_2_code
def yX7_wipe : MethodName := ⟨RX7, "wipe", "()V"⟩
abbrev cX7_metreOf : ByteArray := prog_9_method_3_code
def yX7_metreOf : MethodName := ⟨RX7, "metreOf", "(I)I"⟩
abbrev cX7_setMetre : ByteArray := prog_9_method_4_code
def yX7_setMetre : MethodName := ⟨RX7, "setMetre", "(II)V"⟩
abbrev cX7_fits : ByteArray := prog_9_method_5_code
def yX7_fits : MethodName := ⟨RX7, "fits", "(III)Z"⟩
def RX8 : String := "RhymeLaw$Text"
def TX8 : u_T := fun k => match k with
  | 0 => ("RhymeLaw$Text", "bytes", "[B", true)
  | 1 => ("RhymeLaw$Text", "length", "I", false)
  | 2 => ("RhymeLaw$Text", "start", "I", false)
  | 3 => ("RhymeLaw$Text", "end", "I", false)
  | _ => ("RhymeLaw$Text", "sort", "I", false)
def tyX8 : Nat → FieldType := fun k => match k with
  | 0 => .array .byte
  | 1 => .int
  | 2 => .int
  | 3 => .int
  | _ => .int
abbrev wsX80 : List Cond := u_ws RX8 TX8 5
theorem nmX8 : ∀ a, a < 5 → ∀ b, b < 5 → a ≠ b → (TX8 a).2.1 ≠ (TX8 b).2.1 := by decide +kernel
theorem tyX8_ok : ∀ k, k < 5 → parseFieldDescriptor (TX8 k).2.2.1 = some (tyX8 k) := by decide +kernel
abbrev cX8_init : ByteArray := prog_10_method_1_code
def yX8_init : MethodName := ⟨RX8, "<init>", "()V"⟩
abbrev cX8_length : ByteArray := prog_10_method_2_code
def yX8_length : MethodName := ⟨RX8, "length", "()I"⟩
abbrev cX8_wipe : ByteArray := prog_10_method_3_code
def yX8_wipe : MethodName := ⟨RX8, "wipe", "()V"⟩
abbrev cX8_append : ByteArray := prog_10_method_4_code
def yX8_append : MethodName := ⟨RX8, "append", "(I)V"⟩
abbrev cX8_rewind : ByteArray := prog_10_method_5_code
def yX8_rewind : MethodName := ⟨RX8, "rewind", "()V"⟩
abbrev cX8_advance : ByteArray := prog_10_method_6_code
def yX8_advance : MethodName := ⟨RX8, "advance", "()V"⟩
abbrev cX8_start : ByteArray := prog_10_method_7_code
def yX8_start : MethodName := ⟨RX8, "start", "()I"⟩
abbrev cX8_isOut : ByteArray := prog_10_method_8_code
def yX8_isOut : MethodName := ⟨RX8, "isOut", "()Z"⟩
abbrev cX8_isStop : ByteArray := prog_10_method_9_code
def yX8_isStop : MethodName := ⟨RX8, "isStop", "()Z"⟩
abbrev cX8_isNamed : ByteArray := prog_10_method_10_code
def yX8_isNamed : MethodName := ⟨RX8, "isNamed", "(Ljava/lang/String;)Z"⟩
abbrev cX8_number : ByteArray := prog_10_method_11_code
def yX8_number : MethodName := ⟨RX8, "number", "()I"⟩
abbrev cX8_letters : ByteArray := prog_10_method_12_code
def yX8_letters : MethodName := ⟨RX8, "letters", "()I"⟩
abbrev cX8_letterAt : ByteArray := prog_10_method_13_code
def yX8_letterAt : MethodName := ⟨RX8, "letterAt", "(I)I"⟩
abbrev cX8_byteAt : ByteArray := prog_10_method_14_code
def yX8_byteAt : MethodName := ⟨RX8, "byteAt", "(I)I"⟩
abbrev cX8_behind : ByteArray := prog_10_method_15_code
def yX8_behind : MethodName := ⟨RX8, "behind", "(III)I"⟩
def RX9 : String := "RhymeLaw$Verdict"
def TX9 : u_T := fun k => match k with
  | 0 => ("RhymeLaw$Verdict", "states", "[I", true)
  | 1 => ("RhymeLaw$Verdict", "anchors", "[I", true)
  | 2 => ("RhymeLaw$Verdict", "latest", "[I", true)
  | 3 => ("RhymeLaw$Verdict", "size", "I", false)
  | _ => ("RhymeLaw$Verdict", "binding", "I", false)
def tyX9 : Nat → FieldType := fun k => match k with
  | 0 => .array .int
  | 1 => .array .int
  | 2 => .array .int
  | 3 => .int
  | _ => .int
abbrev wsX90 : List Cond := u_ws RX9 TX9 5
theorem nmX9 : ∀ a, a < 5 → ∀ b, b < 5 → a ≠ b → (TX9 a).2.1 ≠ (TX9 b).2.1 := by decide +kernel
theorem tyX9_ok : ∀ k, k < 5 → parseFieldDescriptor (TX9 k).2.2.1 = some (tyX9 k) := by decide +kernel
abbrev cX9_init : ByteArray := prog_11_method_1_code
def yX9_init : MethodName := ⟨RX9, "<init>", "()V"⟩
abbrev cX9_judge : ByteArray := prog_11_method_2_code
def yX9_judge : MethodName := ⟨RX9, "judge", "(LRhymeLaw$Tale;LRhymeLaw$Paper;II)V"⟩
abbrev cX9_enter : ByteArray := prog_11_method_3_code
def yX9_enter : MethodName := ⟨RX9, "enter", "(IIII)V"⟩
abbrev cX9_stands : ByteArray := prog_11_method_4_code
def yX9_stands : MethodName := ⟨RX9, "stands", "(I)Z"⟩
abbrev cX9_opens : ByteArray := prog_11_method_5_code
def yX9_opens : MethodName := ⟨RX9, "opens", "(I)Z"⟩
abbrev cX9_rhymed : ByteArray := prog_11_method_6_code
def yX9_rhymed : MethodName := ⟨RX9, "rhymed", "(I)Z"⟩
abbrev cX9_binds : ByteArray := prog_11_method_7_code
def yX9_binds : MethodName := ⟨RX9, "binds", "(I)Z"⟩
abbrev cX9_anchor : ByteArray := prog_11_method_8_code
def yX9_anchor : MethodName := ⟨RX9, "anchor", "(I)I"⟩
abbrev cX9_isLaw : ByteArray := prog_11_method_9_code
def yX9_isLaw : MethodName := ⟨RX9, "isLaw", "()Z"⟩
abbrev cX9_firstLoose : ByteArray := prog_11_method_10_code
def yX9_firstLoose : MethodName := ⟨RX9, "firstLoose", "()I"⟩
abbrev cX9_thingsOf : ByteArray := prog_11_method_11_code
def yX9_thingsOf : MethodName := ⟨RX9, "thingsOf", "(LRhymeLaw$Paper;)I"⟩
abbrev cX9_left : ByteArray := prog_11_method_12_code
def yX9_left : MethodName := ⟨RX9, "left", "(I)I"⟩
abbrev cX9_keyLine : ByteArray := prog_11_method_13_code
def yX9_keyLine : MethodName := ⟨RX9, "keyLine", "()I"⟩
def RX10 : String := "RhymeLaw$Words"
def TX10 : u_T := fun k => match k with
  | 0 => ("RhymeLaw$Words", "sounds", "[I", true)
  | 1 => ("RhymeLaw$Words", "meanings", "[I", true)
  | 2 => ("RhymeLaw$Words", "syllables", "[I", true)
  | _ => ("RhymeLaw$Words", "size", "I", false)
def tyX10 : Nat → FieldType := fun k => match k with
  | 0 => .array .int
  | 1 => .array .int
  | 2 => .array .int
  | _ => .int
abbrev wsX100 : List Cond := u_ws RX10 TX10 4
theorem nmX10 : ∀ a, a < 4 → ∀ b, b < 4 → a ≠ b → (TX10 a).2.1 ≠ (TX10 b).2.1 := by decide +kernel
theorem tyX10_ok : ∀ k, k < 4 → parseFieldDescriptor (TX10 k).2.2.1 = some (tyX10 k) := by decide +kernel
abbrev cX10_init : ByteArray := prog_12_method_1_code
def yX10_init : MethodName := ⟨RX10, "<init>", "()V"⟩
abbrev cX10_size : ByteArray := prog_12_method_2_code
def yX10_size : MethodName := ⟨RX10, "size", "()I"⟩
abbrev cX10_isFull : ByteArray := prog_12_method_3_code
def yX10_isFull : MethodName := ⟨RX10, "isFull", "()Z"⟩
abbrev cX10_has : ByteArray := prog_12_method_4_code
def yX10_has : MethodName := ⟨RX10, "has", "(I)Z"⟩
abbrev cX10_wipe : ByteArray := prog_12_method_5_code
def yX10_wipe : MethodName := ⟨RX10, "wipe", "()V"⟩
abbrev cX10_add : ByteArray := prog_12_method_6_code
def yX10_add : MethodName := ⟨RX10, "add", "(IIII)V"⟩
abbrev cX10_sound : ByteArray := prog_12_method_7_code
def yX10_sound : MethodName := ⟨RX10, "sound", "(II)I"⟩
abbrev cX10_meaning : ByteArray := prog_12_method_8_code
def yX10_meaning : MethodName := ⟨RX10, "meaning", "(I)I"⟩
abbrev cX10_syllables : ByteArray := prog_12_method_9_code
def yX10_syllables : MethodName := ⟨RX10, "syllables", "(I)I"⟩
abbrev cX10_rhyme : ByteArray := prog_12_method_10_code
def yX10_rhyme : MethodName := ⟨RX10, "rhyme", "(III)Z"⟩
abbrev cX10_mix : ByteArray := prog_12_method_11_code
def yX10_mix : MethodName := ⟨RX10, "mix", "(I)V"⟩
def RX11 : String := "RhymeLaw"
def TX11 : u_T := fun k => match k with
  | 0 => ("RhymeLaw", "text", "LRhymeLaw$Text;", true)
  | 1 => ("RhymeLaw", "verdict", "LRhymeLaw$Verdict;", true)
  | 2 => ("RhymeLaw", "trial", "LRhymeLaw$Paper;", true)
  | 3 => ("RhymeLaw", "mending", "LRhymeLaw$Mending;", true)
  | 4 => ("RhymeLaw", "guess", "LRhymeLaw$Guess;", true)
  | 5 => ("RhymeLaw", "choice", "LRhymeLaw$Choice;", true)
  | 6 => ("RhymeLaw", "firstImage", "LRhymeLaw$Paper;", true)
  | 7 => ("RhymeLaw", "secondImage", "LRhymeLaw$Paper;", true)
  | 8 => ("RhymeLaw", "told", "LRhymeLaw$Tale;", false)
  | 9 => ("RhymeLaw", "spare", "LRhymeLaw$Tale;", false)
  | 10 => ("RhymeLaw", "kept", "I", false)
  | _ => ("RhymeLaw", "traced", "J", false)
def tyX11 : Nat → FieldType := fun k => match k with
  | 0 => .object "RhymeLaw$Text"
  | 1 => .object "RhymeLaw$Verdict"
  | 2 => .object "RhymeLaw$Paper"
  | 3 => .object "RhymeLaw$Mending"
  | 4 => .object "RhymeLaw$Guess"
  | 5 => .object "RhymeLaw$Choice"
  | 6 => .object "RhymeLaw$Paper"
  | 7 => .object "RhymeLaw$Paper"
  | 8 => .object "RhymeLaw$Tale"
  | 9 => .object "RhymeLaw$Tale"
  | 10 => .int
  | _ => .long
abbrev wsX110 : List Cond := u_ws RX11 TX11 12
theorem nmX11 : ∀ a, a < 12 → ∀ b, b < 12 → a ≠ b → (TX11 a).2.1 ≠ (TX11 b).2.1 := by decide +kernel
theorem tyX11_ok : ∀ k, k < 12 → parseFieldDescriptor (TX11 k).2.2.1 = some (tyX11 k) := by decide +kernel
abbrev cX11_init : ByteArray := prog_1_method_1_code
def yX11_init : MethodName := ⟨RX11, "<init>", "()V"⟩
abbrev cX11_type : ByteArray := prog_1_method_2_code
def yX11_type : MethodName := ⟨RX11, "type", "(JI)I"⟩
abbrev cX11_clear : ByteArray := prog_1_method_3_code
def yX11_clear : MethodName := ⟨RX11, "clear", "()I"⟩
abbrev cX11_read : ByteArray := prog_1_method_4_code
def yX11_read : MethodName := ⟨RX11, "read", "()I"⟩
abbrev cX11_word : ByteArray := prog_1_method_5_code
def yX11_word : MethodName := ⟨RX11, "word", "(II)I"⟩
abbrev cX11_form : ByteArray := prog_1_method_6_code
def yX11_form : MethodName := ⟨RX11, "form", "(II)I"⟩
abbrev cX11_metre : ByteArray := prog_1_method_7_code
def yX11_metre : MethodName := ⟨RX11, "metre", "(II)I"⟩
abbrev cX11_line : ByteArray := prog_1_method_8_code
def yX11_line : MethodName := ⟨RX11, "line", "(II)I"⟩
abbrev cX11_stock : ByteArray := prog_1_method_9_code
def yX11_stock : MethodName := ⟨RX11, "stock", "(II)I"⟩
abbrev cX11_put : ByteArray := prog_1_method_10_code
def yX11_put : MethodName := ⟨RX11, "put", "(IIII)I"⟩
abbrev cX11_change : ByteArray := prog_1_method_11_code
def yX11_change : MethodName := ⟨RX11, "change", "(II)I"⟩
abbrev cX11_take : ByteArray := prog_1_method_12_code
def yX11_take : MethodName := ⟨RX11, "take", "(I)I"⟩
abbrev cX11_judged : ByteArray := prog_1_method_13_code
def yX11_judged : MethodName := ⟨RX11, "judged", "(IIII)I"⟩
abbrev cX11_law : ByteArray := prog_1_method_14_code
def yX11_law : MethodName := ⟨RX11, "law", "(II)I"⟩
abbrev cX11_empty : ByteArray := prog_1_method_15_code
def yX11_empty : MethodName := ⟨RX11, "empty", "(II)I"⟩
abbrev cX11_bound : ByteArray := prog_1_method_16_code
def yX11_bound : MethodName := ⟨RX11, "bound", "(II)I"⟩
abbrev cX11_struck : ByteArray := prog_1_method_17_code
def yX11_struck : MethodName := ⟨RX11, "struck", "(III)I"⟩
abbrev cX11_key : ByteArray := prog_1_method_18_code
def yX11_key : MethodName := ⟨RX11, "key", "(II)I"⟩
abbrev cX11_mended : ByteArray := prog_1_method_19_code
def yX11_mended : MethodName := ⟨RX11, "mended", "(III)I"⟩
abbrev cX11_shortest : ByteArray := prog_1_method_20_code
def yX11_shortest : MethodName := ⟨RX11, "shortest", "(IIII)I"⟩
abbrev cX11_both : ByteArray := prog_1_method_21_code
def yX11_both : MethodName := ⟨RX11, "both", "(I)I"⟩
abbrev cX11_parting : ByteArray := prog_1_method_22_code
def yX11_parting : MethodName := ⟨RX11, "parting", "(I)I"⟩
abbrev cX11_forged : ByteArray := prog_1_method_23_code
def yX11_forged : MethodName := ⟨RX11, "forged", "(III)I"⟩
abbrev cX11_burnt : ByteArray := prog_1_method_24_code
def yX11_burnt : MethodName := ⟨RX11, "burnt", "(IIII)J"⟩
abbrev cX11_rate : ByteArray := prog_1_method_25_code
def yX11_rate : MethodName := ⟨RX11, "rate", "(II)I"⟩
abbrev cX11_keep : ByteArray := prog_1_method_26_code
def yX11_keep : MethodName := ⟨RX11, "keep", "(I)I"⟩
abbrev cX11_back : ByteArray := prog_1_method_27_code
def yX11_back : MethodName := ⟨RX11, "back", "(I)I"⟩
abbrev cX11_count : ByteArray := prog_1_method_28_code
def yX11_count : MethodName := ⟨RX11, "count", "(I)I"⟩
abbrev cX11_trace : ByteArray := prog_1_method_29_code
def yX11_trace : MethodName := ⟨RX11, "trace", "()J"⟩
abbrev cX11_isNoView : ByteArray := prog_1_method_30_code
def yX11_isNoView : MethodName := ⟨RX11, "isNoView", "(II)Z"⟩
abbrev cX11_isNoLineNorAll : ByteArray := prog_1_method_31_code
def yX11_isNoLineNorAll : MethodName := ⟨RX11, "isNoLineNorAll", "(I)Z"⟩
abbrev cX11_view : ByteArray := prog_1_method_32_code
def yX11_view : MethodName := ⟨RX11, "view", "(II)LRhymeLaw$Verdict;"⟩
abbrev cX11_isMixedLaw : ByteArray := prog_1_method_33_code
def yX11_isMixedLaw : MethodName := ⟨RX11, "isMixedLaw", "(II)Z"⟩
abbrev cX11_isLoosed : ByteArray := prog_1_method_34_code
def yX11_isLoosed : MethodName := ⟨RX11, "isLoosed", "(IIIII)Z"⟩
abbrev cX11_imageOf : ByteArray := prog_1_method_35_code
def yX11_imageOf : MethodName := ⟨RX11, "imageOf", "(I)LRhymeLaw$Paper;"⟩
abbrev cX11_asLine : ByteArray := prog_1_method_36_code
def yX11_asLine : MethodName := ⟨RX11, "asLine", "(I)I"⟩
abbrev cX11_asOpening : ByteArray := prog_1_method_37_code
def yX11_asOpening : MethodName := ⟨RX11, "asOpening", "(I)I"⟩
abbrev cX11_asRhymed : ByteArray := prog_1_method_38_code
def yX11_asRhymed : MethodName := ⟨RX11, "asRhymed", "(I)I"⟩
abbrev cX11_asAnchor : ByteArray := prog_1_method_39_code
def yX11_asAnchor : MethodName := ⟨RX11, "asAnchor", "(I)I"⟩
abbrev cX11_asKey : ByteArray := prog_1_method_40_code
def yX11_asKey : MethodName := ⟨RX11, "asKey", "(I)I"⟩
abbrev cX11_asFallen : ByteArray := prog_1_method_41_code
def yX11_asFallen : MethodName := ⟨RX11, "asFallen", "(I)I"⟩
def RX12 : String := "RhymeLawModel"
def TX12 : u_T := fun k => match k with
  | 0 => ("RhymeLawModel", "thrown", "I", false)
  | 1 => ("RhymeLawModel", "trace", "J", false)
  | 2 => ("RhymeLawModel", "text", "[I", true)
  | 3 => ("RhymeLawModel", "typed", "I", false)
  | 4 => ("RhymeLawModel", "next", "I", false)
  | 5 => ("RhymeLawModel", "token", "I", false)
  | 6 => ("RhymeLawModel", "place", "I", false)
  | 7 => ("RhymeLawModel", "value", "I", false)
  | 8 => ("RhymeLawModel", "fault", "I", false)
  | 9 => ("RhymeLawModel", "word", "[I", true)
  | 10 => ("RhymeLawModel", "form", "[I", true)
  | 11 => ("RhymeLawModel", "metre", "[I", true)
  | 12 => ("RhymeLawModel", "stock", "[I", true)
  | 13 => ("RhymeLawModel", "words", "I", false)
  | 14 => ("RhymeLawModel", "forms", "I", false)
  | 15 => ("RhymeLawModel", "stocks", "I", false)
  | 16 => ("RhymeLawModel", "draftWords", "I", false)
  | 17 => ("RhymeLawModel", "draftForms", "I", false)
  | 18 => ("RhymeLawModel", "draftStocks", "I", false)
  | 19 => ("RhymeLawModel", "draftLines", "I", false)
  | 20 => ("RhymeLawModel", "draftLine", "[I", true)
  | 21 => ("RhymeLawModel", "s", "[I", true)
  | 22 => ("RhymeLawModel", "kept", "[I", true)
  | 23 => ("RhymeLawModel", "isKept", "[Z", true)
  | 24 => ("RhymeLawModel", "tried", "[I", true)
  | 25 => ("RhymeLawModel", "many", "I", false)
  | 26 => ("RhymeLawModel", "stands", "[Z", true)
  | 27 => ("RhymeLawModel", "opens", "[Z", true)
  | 28 => ("RhymeLawModel", "binds", "[Z", true)
  | 29 => ("RhymeLawModel", "anchor", "[I", true)
  | 30 => ("RhymeLawModel", "lapses", "[Z", true)
  | 31 => ("RhymeLawModel", "sound", "[I", true)
  | 32 => ("RhymeLawModel", "may", "[I", true)
  | 33 => ("RhymeLawModel", "row", "[I", true)
  | 34 => ("RhymeLawModel", "ways", "[J", true)
  | 35 => ("RhymeLawModel", "waysThen", "[J", true)
  | 36 => ("RhymeLawModel", "least", "[I", true)
  | _ => ("RhymeLawModel", "leastThen", "[I", true)
def tyX12 : Nat → FieldType := fun k => match k with
  | 0 => .int
  | 1 => .long
  | 2 => .array .int
  | 3 => .int
  | 4 => .int
  | 5 => .int
  | 6 => .int
  | 7 => .int
  | 8 => .int
  | 9 => .array .int
  | 10 => .array .int
  | 11 => .array .int
  | 12 => .array .int
  | 13 => .int
  | 14 => .int
  | 15 => .int
  | 16 => .int
  | 17 => .int
  | 18 => .int
  | 19 => .int
  | 20 => .array .int
  | 21 => .array .int
  | 22 => .array .int
  | 23 => .array .boolean
  | 24 => .array .int
  | 25 => .int
  | 26 => .array .boolean
  | 27 => .array .boolean
  | 28 => .array .boolean
  | 29 => .array .int
  | 30 => .array .boolean
  | 31 => .array .int
  | 32 => .array .int
  | 33 => .array .int
  | 34 => .array .long
  | 35 => .array .long
  | 36 => .array .int
  | _ => .array .int
abbrev wsX120 : List Cond := u_ws RX12 TX12 38
theorem nmX12 : ∀ a, a < 38 → ∀ b, b < 38 → a ≠ b → (TX12 a).2.1 ≠ (TX12 b).2.1 := by decide +kernel
theorem tyX12_ok : ∀ k, k < 38 → parseFieldDescriptor (TX12 k).2.2.1 = some (tyX12 k) := by decide +kernel
abbrev cX12_init : ByteArray := prog_14_method_1_code
def yX12_init : MethodName := ⟨RX12, "<init>", "()V"⟩
abbrev cX12_in : ByteArray := prog_14_method_3_code
def yX12_in : MethodName := ⟨RX12, "in", "(III)Z"⟩
abbrev cX12_type : ByteArray := prog_14_method_4_code
def yX12_type : MethodName := ⟨RX12, "type", "(JI)I"⟩
abbrev cX12_clear : ByteArray := prog_14_method_5_code
def yX12_clear : MethodName := ⟨RX12, "clear", "()I"⟩
abbrev cX12_byteAt : ByteArray := prog_14_method_6_code
def yX12_byteAt : MethodName := ⟨RX12, "byteAt", "(I)I"⟩
abbrev cX12_advances : ByteArray := prog_14_method_7_code
def yX12_advances : MethodName := ⟨RX12, "advances", "()V"⟩
abbrev cX12_isWell : ByteArray := prog_14_method_8_code
def yX12_isWell : MethodName := ⟨RX12, "isWell", "()Z"⟩
abbrev cX12_wants : ByteArray := prog_14_method_9_code
def yX12_wants : MethodName := ⟨RX12, "wants", "(Z)V"⟩
abbrev cX12_number : ByteArray := prog_14_method_10_code
def yX12_number : MethodName := ⟨RX12, "number", "(II)I"⟩
abbrev cX12_says : ByteArray := prog_14_method_11_code
def yX12_says : MethodName := ⟨RX12, "says", "(IIIII)Z"⟩
abbrev cX12_begins : ByteArray := prog_14_method_12_code
def yX12_begins : MethodName := ⟨RX12, "begins", "()I"⟩
abbrev cX12_areLetters : ByteArray := prog_14_method_13_code
def yX12_areLetters : MethodName := ⟨RX12, "areLetters", "(I)Z"⟩
abbrev cX12_readsWord : ByteArray := prog_14_method_14_code
def yX12_readsWord : MethodName := ⟨RX12, "readsWord", "()V"⟩
abbrev cX12_readsForm : ByteArray := prog_14_method_15_code
def yX12_readsForm : MethodName := ⟨RX12, "readsForm", "()V"⟩
abbrev cX12_readsMetre : ByteArray := prog_14_method_16_code
def yX12_readsMetre : MethodName := ⟨RX12, "readsMetre", "()V"⟩
abbrev cX12_readsLine : ByteArray := prog_14_method_17_code
def yX12_readsLine : MethodName := ⟨RX12, "readsLine", "([II)V"⟩
abbrev cX12_readsItem : ByteArray := prog_14_method_18_code
def yX12_readsItem : MethodName := ⟨RX12, "readsItem", "(I)V"⟩
abbrev cX12_read : ByteArray := prog_14_method_19_code
def yX12_read : MethodName := ⟨RX12, "read", "()I"⟩
abbrev cX12_isWord : ByteArray := prog_14_method_20_code
def yX12_isWord : MethodName := ⟨RX12, "isWord", "(I)Z"⟩
abbrev cX12_isLine : ByteArray := prog_14_method_21_code
def yX12_isLine : MethodName := ⟨RX12, "isLine", "(I)Z"⟩
abbrev cX12_isForm : ByteArray := prog_14_method_22_code
def yX12_isForm : MethodName := ⟨RX12, "isForm", "(II)Z"⟩
abbrev cX12_word : ByteArray := prog_14_method_23_code
def yX12_word : MethodName := ⟨RX12, "word", "(II)I"⟩
abbrev cX12_letterOf : ByteArray := prog_14_method_24_code
def yX12_letterOf : MethodName := ⟨RX12, "letterOf", "(II)I"⟩
abbrev cX12_form : ByteArray := prog_14_method_25_code
def yX12_form : MethodName := ⟨RX12, "form", "(II)I"⟩
abbrev cX12_metre : ByteArray := prog_14_method_26_code
def yX12_metre : MethodName := ⟨RX12, "metre", "(II)I"⟩
abbrev cX12_line : ByteArray := prog_14_method_27_code
def yX12_line : MethodName := ⟨RX12, "line", "(II)I"⟩
abbrev cX12_stock : ByteArray := prog_14_method_28_code
def yX12_stock : MethodName := ⟨RX12, "stock", "(II)I"⟩
abbrev cX12_put : ByteArray := prog_14_method_29_code
def yX12_put : MethodName := ⟨RX12, "put", "(IIII)I"⟩
abbrev cX12_change : ByteArray := prog_14_method_30_code
def yX12_change : MethodName := ⟨RX12, "change", "(II)I"⟩
abbrev cX12_take : ByteArray := prog_14_method_31_code
def yX12_take : MethodName := ⟨RX12, "take", "(I)I"⟩
abbrev cX12_lays : ByteArray := prog_14_method_32_code
def yX12_lays : MethodName := ⟨RX12, "lays", "()V"⟩
abbrev cX12_hears : ByteArray := prog_14_method_33_code
def yX12_hears : MethodName := ⟨RX12, "hears", "(I)V"⟩
abbrev cX12_isMetre : ByteArray := prog_14_method_34_code
def yX12_isMetre : MethodName := ⟨RX12, "isMetre", "(III)Z"⟩
abbrev cX12_judges : ByteArray := prog_14_method_35_code
def yX12_judges : MethodName := ⟨RX12, "judges", "(I)V"⟩
abbrev cX12_holds : ByteArray := prog_14_method_36_code
def yX12_holds : MethodName := ⟨RX12, "holds", "(IZ)Z"⟩
abbrev cX12_judgesPaper : ByteArray := prog_14_method_37_code
def yX12_judgesPaper : MethodName := ⟨RX12, "judgesPaper", "(II)V"⟩
abbrev cX12_emptyLine : ByteArray := prog_14_method_38_code
def yX12_emptyLine : MethodName := ⟨RX12, "emptyLine", "()I"⟩
abbrev cX12_isLaw : ByteArray := prog_14_method_39_code
def yX12_isLaw : MethodName := ⟨RX12, "isLaw", "(I)Z"⟩
abbrev cX12_judged : ByteArray := prog_14_method_40_code
def yX12_judged : MethodName := ⟨RX12, "judged", "(IIII)I"⟩
abbrev cX12_law : ByteArray := prog_14_method_41_code
def yX12_law : MethodName := ⟨RX12, "law", "(II)I"⟩
abbrev cX12_empty : ByteArray := prog_14_method_42_code
def yX12_empty : MethodName := ⟨RX12, "empty", "(II)I"⟩
abbrev cX12_boundBy : ByteArray := prog_14_method_43_code
def yX12_boundBy : MethodName := ⟨RX12, "boundBy", "()I"⟩
abbrev cX12_bound : ByteArray := prog_14_method_44_code
def yX12_bound : MethodName := ⟨RX12, "bound", "(II)I"⟩
abbrev cX12_leftBy : ByteArray := prog_14_method_45_code
def yX12_leftBy : MethodName := ⟨RX12, "leftBy", "(I)I"⟩
abbrev cX12_struck : ByteArray := prog_14_method_46_code
def yX12_struck : MethodName := ⟨RX12, "struck", "(III)I"⟩
abbrev cX12_ones : ByteArray := prog_14_method_47_code
def yX12_ones : MethodName := ⟨RX12, "ones", "(I)I"⟩
abbrev cX12_key : ByteArray := prog_14_method_48_code
def yX12_key : MethodName := ⟨RX12, "key", "(II)I"⟩
abbrev cX12_fewestOf : ByteArray := prog_14_method_49_code
def yX12_fewestOf : MethodName := ⟨RX12, "fewestOf", "(III)I"⟩
abbrev cX12_fewestAll : ByteArray := prog_14_method_50_code
def yX12_fewestAll : MethodName := ⟨RX12, "fewestAll", "(I)I"⟩
abbrev cX12_mended : ByteArray := prog_14_method_51_code
def yX12_mended : MethodName := ⟨RX12, "mended", "(III)I"⟩
abbrev cX12_goesOn : ByteArray := prog_14_method_52_code
def yX12_goesOn : MethodName := ⟨RX12, "goesOn", "(I)Z"⟩
abbrev cX12_isInRow : ByteArray := prog_14_method_53_code
def yX12_isInRow : MethodName := ⟨RX12, "isInRow", "(II)Z"⟩
abbrev cX12_fills : ByteArray := prog_14_method_54_code
def yX12_fills : MethodName := ⟨RX12, "fills", "(II)V"⟩
abbrev cX12_laysRow : ByteArray := prog_14_method_55_code
def yX12_laysRow : MethodName := ⟨RX12, "laysRow", "(I)V"⟩
abbrev cX12_shortest : ByteArray := prog_14_method_56_code
def yX12_shortest : MethodName := ⟨RX12, "shortest", "(IIII)I"⟩
abbrev cX12_both : ByteArray := prog_14_method_57_code
def yX12_both : MethodName := ⟨RX12, "both", "(I)I"⟩
abbrev cX12_parting : ByteArray := prog_14_method_58_code
def yX12_parting : MethodName := ⟨RX12, "parting", "(I)I"⟩
abbrev cX12_forged : ByteArray := prog_14_method_59_code
def yX12_forged : MethodName := ⟨RX12, "forged", "(III)I"⟩
abbrev cX12_waysOf : ByteArray := prog_14_method_60_code
def yX12_waysOf : MethodName := ⟨RX12, "waysOf", "(III)J"⟩
abbrev cX12_waysAll : ByteArray := prog_14_method_61_code
def yX12_waysAll : MethodName := ⟨RX12, "waysAll", "(I)J"⟩
abbrev cX12_burnt : ByteArray := prog_14_method_62_code
def yX12_burnt : MethodName := ⟨RX12, "burnt", "(IIII)J"⟩
abbrev cX12_rate : ByteArray := prog_14_method_63_code
def yX12_rate : MethodName := ⟨RX12, "rate", "(II)I"⟩
abbrev cX12_keep : ByteArray := prog_14_method_64_code
def yX12_keep : MethodName := ⟨RX12, "keep", "(I)I"⟩
abbrev cX12_back : ByteArray := prog_14_method_65_code
def yX12_back : MethodName := ⟨RX12, "back", "(I)I"⟩
abbrev cX12_count : ByteArray := prog_14_method_66_code
def yX12_count : MethodName := ⟨RX12, "count", "(I)I"⟩
abbrev cX12_trace : ByteArray := prog_14_method_67_code
def yX12_trace : MethodName := ⟨RX12, "trace", "()J"⟩
def RJx145de : String := "java/io/Serializable"
def TJx145de : u_T := fun k => match k with
  | _ => ("", "", "", false)
def tyJx145de : Nat → FieldType := fun k => match k with
  | _ => .int
abbrev wsJx145de0 : List Cond := u_ws RJx145de TJx145de 0
theorem nmJx145de : ∀ a, a < 0 → ∀ b, b < 0 → a ≠ b → (TJx145de a).2.1 ≠ (TJx145de b).2.1 := by decide +kernel
theorem tyJx145de_ok : ∀ k, k < 0 → parseFieldDescriptor (TJx145de k).2.2.1 = some (tyJx145de k) := by decide +kernel
def RJx9f9b0 : String := "java/lang/CharSequence"
def TJx9f9b0 : u_T := fun k => match k with
  | _ => ("", "", "", false)
def tyJx9f9b0 : Nat → FieldType := fun k => match k with
  | _ => .int
abbrev wsJx9f9b00 : List Cond := u_ws RJx9f9b0 TJx9f9b0 0
theorem nmJx9f9b0 : ∀ a, a < 0 → ∀ b, b < 0 → a ≠ b → (TJx9f9b0 a).2.1 ≠ (TJx9f9b0 b).2.1 := by decide +kernel
theorem tyJx9f9b0_ok : ∀ k, k < 0 → parseFieldDescriptor (TJx9f9b0 k).2.2.1 = some (tyJx9f9b0 k) := by decide +kernel
def RJxb160c : String := "java/lang/Comparable"
def TJxb160c : u_T := fun k => match k with
  | _ => ("", "", "", false)
def tyJxb160c : Nat → FieldType := fun k => match k with
  | _ => .int
abbrev wsJxb160c0 : List Cond := u_ws RJxb160c TJxb160c 0
theorem nmJxb160c : ∀ a, a < 0 → ∀ b, b < 0 → a ≠ b → (TJxb160c a).2.1 ≠ (TJxb160c b).2.1 := by decide +kernel
theorem tyJxb160c_ok : ∀ k, k < 0 → parseFieldDescriptor (TJxb160c k).2.2.1 = some (tyJxb160c k) := by decide +kernel
def RJ6 : String := "java/lang/Integer"
def TJ6 : u_T := fun k => match k with
  | _ => ("", "", "", false)
def tyJ6 : Nat → FieldType := fun k => match k with
  | _ => .int
abbrev wsJ60 : List Cond := u_ws RJ6 TJ6 0
theorem nmJ6 : ∀ a, a < 0 → ∀ b, b < 0 → a ≠ b → (TJ6 a).2.1 ≠ (TJ6 b).2.1 := by decide +kernel
theorem tyJ6_ok : ∀ k, k < 0 → parseFieldDescriptor (TJ6 k).2.2.1 = some (tyJ6 k) := by decide +kernel
abbrev cJ6_bitCount_0f7a4 : ByteArray := prog_15_method_49_code
def yJ6_bitCount_0f7a4 : MethodName := ⟨RJ6, "bitCount", "(I)I"⟩
def RJ9 : String := "java/lang/Math"
def TJ9 : u_T := fun k => match k with
  | _ => ("", "", "", false)
def tyJ9 : Nat → FieldType := fun k => match k with
  | _ => .int
abbrev wsJ90 : List Cond := u_ws RJ9 TJ9 0
theorem nmJ9 : ∀ a, a < 0 → ∀ b, b < 0 → a ≠ b → (TJ9 a).2.1 ≠ (TJ9 b).2.1 := by decide +kernel
theorem tyJ9_ok : ∀ k, k < 0 → parseFieldDescriptor (TJ9 k).2.2.1 = some (tyJ9 k) := by decide +kernel
abbrev cJ9_max_7cf53 : ByteArray := prog_16_method_65_code
def yJ9_max_7cf53 : MethodName := ⟨RJ9, "max", "(II)I"⟩
abbrev cJ9_min_7cf53 : ByteArray := prog_16_method_69_code
def yJ9_min_7cf53 : MethodName := ⟨RJ9, "min", "(II)I"⟩
def RJ0 : String := "java/lang/String"
def TJ0 : u_T := fun k => match k with
  | _ => ("", "", "", false)
def tyJ0 : Nat → FieldType := fun k => match k with
  | _ => .int
abbrev wsJ00 : List Cond := u_ws RJ0 TJ0 0
theorem nmJ0 : ∀ a, a < 0 → ∀ b, b < 0 → a ≠ b → (TJ0 a).2.1 ≠ (TJ0 b).2.1 := by decide +kernel
theorem tyJ0_ok : ∀ k, k < 0 → parseFieldDescriptor (TJ0 k).2.2.1 = some (tyJ0 k) := by decide +kernel
abbrev cJ0_length_8abf5 : ByteArray := prog_17_method_54_code
def yJ0_length_8abf5 : MethodName := ⟨RJ0, "length", "()I"⟩
abbrev cJ0_charAt_5068e : ByteArray := prog_17_method_56_code
def yJ0_charAt_5068e : MethodName := ⟨RJ0, "charAt", "(I)C"⟩
abbrev cJ0_coder_7d493 : ByteArray := prog_17_method_152_code
def yJ0_coder_7d493 : MethodName := ⟨RJ0, "coder", "()B"⟩
abbrev cJ0_isLatin1_aae02 : ByteArray := prog_17_method_154_code
def yJ0_isLatin1_aae02 : MethodName := ⟨RJ0, "isLatin1", "()Z"⟩
abbrev cJ0_checkIndex_df160 : ByteArray := prog_17_method_155_code
def yJ0_checkIndex_df160 : MethodName := ⟨RJ0, "checkIndex", "(II)V"⟩
def RJ1 : String := "java/lang/StringLatin1"
def TJ1 : u_T := fun k => match k with
  | _ => ("", "", "", false)
def tyJ1 : Nat → FieldType := fun k => match k with
  | _ => .int
abbrev wsJ10 : List Cond := u_ws RJ1 TJ1 0
theorem nmJ1 : ∀ a, a < 0 → ∀ b, b < 0 → a ≠ b → (TJ1 a).2.1 ≠ (TJ1 b).2.1 := by decide +kernel
theorem tyJ1_ok : ∀ k, k < 0 → parseFieldDescriptor (TJ1 k).2.2.1 = some (tyJ1 k) := by decide +kernel
abbrev cJ1_charAt_3b067 : ByteArray := prog_18_method_2_code
def yJ1_charAt_3b067 : MethodName := ⟨RJ1, "charAt", "([BI)C"⟩
def RJ2 : String := "java/lang/StringUTF16"
def TJ2 : u_T := fun k => match k with
  | _ => ("", "", "", false)
def tyJ2 : Nat → FieldType := fun k => match k with
  | _ => .int
abbrev wsJ20 : List Cond := u_ws RJ2 TJ2 0
theorem nmJ2 : ∀ a, a < 0 → ∀ b, b < 0 → a ≠ b → (TJ2 a).2.1 ≠ (TJ2 b).2.1 := by decide +kernel
theorem tyJ2_ok : ∀ k, k < 0 → parseFieldDescriptor (TJ2 k).2.2.1 = some (tyJ2 k) := by decide +kernel
abbrev cJ2_getChar_3b067 : ByteArray := prog_19_method_5_code
def yJ2_getChar_3b067 : MethodName := ⟨RJ2, "getChar", "([BI)C"⟩
abbrev cJ2_length_9d52b : ByteArray := prog_19_method_6_code
def yJ2_length_9d52b : MethodName := ⟨RJ2, "length", "([B)I"⟩
abbrev cJ2_charAt_3b067 : ByteArray := prog_19_method_83_code
def yJ2_charAt_3b067 : MethodName := ⟨RJ2, "charAt", "([BI)C"⟩
abbrev cJ2_checkIndex_2214a : ByteArray := prog_19_method_91_code
def yJ2_checkIndex_2214a : MethodName := ⟨RJ2, "checkIndex", "(I[B)V"⟩
def RJxfd54e : String := "java/lang/constant/Constable"
def TJxfd54e : u_T := fun k => match k with
  | _ => ("", "", "", false)
def tyJxfd54e : Nat → FieldType := fun k => match k with
  | _ => .int
abbrev wsJxfd54e0 : List Cond := u_ws RJxfd54e TJxfd54e 0
theorem nmJxfd54e : ∀ a, a < 0 → ∀ b, b < 0 → a ≠ b → (TJxfd54e a).2.1 ≠ (TJxfd54e b).2.1 := by decide +kernel
theorem tyJxfd54e_ok : ∀ k, k < 0 → parseFieldDescriptor (TJxfd54e k).2.2.1 = some (tyJxfd54e k) := by decide +kernel
def RJx3cf43 : String := "java/lang/constant/ConstantDesc"
def TJx3cf43 : u_T := fun k => match k with
  | _ => ("", "", "", false)
def tyJx3cf43 : Nat → FieldType := fun k => match k with
  | _ => .int
abbrev wsJx3cf430 : List Cond := u_ws RJx3cf43 TJx3cf43 0
theorem nmJx3cf43 : ∀ a, a < 0 → ∀ b, b < 0 → a ≠ b → (TJx3cf43 a).2.1 ≠ (TJx3cf43 b).2.1 := by decide +kernel
theorem tyJx3cf43_ok : ∀ k, k < 0 → parseFieldDescriptor (TJx3cf43 k).2.2.1 = some (tyJx3cf43 k) := by decide +kernel
def RJ7 : String := "java/util/Arrays"
def TJ7 : u_T := fun k => match k with
  | _ => ("", "", "", false)
def tyJ7 : Nat → FieldType := fun k => match k with
  | _ => .int
abbrev wsJ70 : List Cond := u_ws RJ7 TJ7 0
theorem nmJ7 : ∀ a, a < 0 → ∀ b, b < 0 → a ≠ b → (TJ7 a).2.1 ≠ (TJ7 b).2.1 := by decide +kernel
theorem tyJ7_ok : ∀ k, k < 0 → parseFieldDescriptor (TJ7 k).2.2.1 = some (tyJ7 k) := by decide +kernel
abbrev cJ7_fill_53178 : ByteArray := prog_20_method_103_code
def yJ7_fill_53178 : MethodName := ⟨RJ7, "fill", "([II)V"⟩
def RJ3 : String := "jdk/internal/util/Preconditions"
def TJ3 : u_T := fun k => match k with
  | _ => ("", "", "", false)
def tyJ3 : Nat → FieldType := fun k => match k with
  | _ => .int
abbrev wsJ30 : List Cond := u_ws RJ3 TJ3 0
theorem nmJ3 : ∀ a, a < 0 → ∀ b, b < 0 → a ≠ b → (TJ3 a).2.1 ≠ (TJ3 b).2.1 := by decide +kernel
theorem tyJ3_ok : ∀ k, k < 0 → parseFieldDescriptor (TJ3 k).2.2.1 = some (tyJ3 k) := by decide +kernel
abbrev cJ3_checkIndex_8e157 : ByteArray := prog_21_method_11_code
def yJ3_checkIndex_8e157 : MethodName := ⟨RJ3, "checkIndex", "(IILjava/util/function/BiFunction;)I"⟩
def RL : String := "RhymeLawLaw"
abbrev cL_law : ByteArray := code
def yL_law : MethodName := ⟨RL, "law", "([I)Z"⟩
abbrev vwCl : List vw_C := [(RX0, TX0, 6), (RX1, TX1, 3), (RX2, TX2, 2), (RX3, TX3, 2), (RX4, TX4, 5), (RX7, TX7, 5), (RX8, TX8, 5), (RX9, TX9, 5), (RX10, TX10, 4), (RX11, TX11, 12), (RX12, TX12, 38)]
end
section
/-! A lighter logic over the kit's rows: gX the fixed facts of a walk, gW the walk at a frame whose heap holds the cells ws and whose locals are L. One list of words, TT, for every method. What a method does is a function F of its cells' contents into an Option; hf : F .. = some r goes along with the walk. -/
/-- the words that every method takes: all of the tables that a call keeps -/
def TT : List Cond := lw_tbl.filter goodWord
theorem tt_good : GoodIn TT TT := fun w h => ⟨h, good_of_word (List.mem_filter.mp h).2⟩
theorem tt_tbl : ∀ w ∈ TT, w ∈ lw_tbl := fun w h => (List.mem_filter.mp h).1
theorem tq0 {w : Cond} (i : Nat) (h : (k2_sels lw_privs)[i]? = some w) (hg : goodWord w = true) : w ∈ TT := List.mem_filter.mpr ⟨List.mem_append_left _ (List.mem_of_getElem? h), hg⟩
theorem tq1 {w : Cond} (i : Nat) (h : tables_1_1[i]? = some w) (hg : goodWord w = true) : w ∈ TT := List.mem_filter.mpr ⟨List.mem_append_right _ (List.mem_append_left _ (List.mem_of_getElem? h)), hg⟩
theorem tq2 {w : Cond} (i : Nat) (h : tables_1_2[i]? = some w) (hg : goodWord w = true) : w ∈ TT := List.mem_filter.mpr ⟨List.mem_append_right _ (List.mem_append_right _ (List.mem_append_left _ (List.mem_of_getElem? h))), hg⟩
theorem tq3 {w : Cond} (i : Nat) (h : tables_1_3[i]? = some w) (hg : goodWord w = true) : w ∈ TT := List.mem_filter.mpr ⟨List.mem_append_right _ (List.mem_append_right _ (List.mem_append_right _ (List.mem_append_left _ (List.mem_of_getElem? h)))), hg⟩
theorem tq4 {w : Cond} (i : Nat) (h : tables_1_4[i]? = some w) (hg : goodWord w = true) : w ∈ TT := List.mem_filter.mpr ⟨List.mem_append_right _ (List.mem_append_right _ (List.mem_append_right _ (List.mem_append_right _ (List.mem_append_left _ (List.mem_of_getElem? h))))), hg⟩
theorem tq5 {w : Cond} (i : Nat) (h : tables_1_5[i]? = some w) (hg : goodWord w = true) : w ∈ TT := List.mem_filter.mpr ⟨List.mem_append_right _ (List.mem_append_right _ (List.mem_append_right _ (List.mem_append_right _ (List.mem_append_right _ (List.mem_append_left _ (List.mem_of_getElem? h)))))), hg⟩
theorem tq6 {w : Cond} (i : Nat) (h : tables_1_6[i]? = some w) (hg : goodWord w = true) : w ∈ TT := List.mem_filter.mpr ⟨List.mem_append_right _ (List.mem_append_right _ (List.mem_append_right _ (List.mem_append_right _ (List.mem_append_right _ (List.mem_append_right _ (List.mem_of_getElem? h)))))), hg⟩
theorem inT0 : ∀ w ∈ u_ws RX0 TX0 6, w ∈ TT := List.forall_mem_cons.mpr ⟨tq1 (w := u_lay RX0 TX0 0) 141 rfl rfl, List.forall_mem_cons.mpr ⟨tq1 (w := u_lay RX0 TX0 1) 143 rfl rfl, List.forall_mem_cons.mpr ⟨tq1 (w := u_lay RX0 TX0 2) 145 rfl rfl, List.forall_mem_cons.mpr ⟨tq1 (w := u_lay RX0 TX0 3) 147 rfl rfl, List.forall_mem_cons.mpr ⟨tq1 (w := u_lay RX0 TX0 4) 149 rfl rfl, List.forall_mem_cons.mpr ⟨tq1 (w := u_lay RX0 TX0 5) 151 rfl rfl, fun _ h => absurd h List.not_mem_nil⟩⟩⟩⟩⟩⟩
theorem inT1 : ∀ w ∈ u_ws RX1 TX1 3, w ∈ TT := List.forall_mem_cons.mpr ⟨tq1 (w := u_lay RX1 TX1 0) 188 rfl rfl, List.forall_mem_cons.mpr ⟨tq1 (w := u_lay RX1 TX1 1) 190 rfl rfl, List.forall_mem_cons.mpr ⟨tq1 (w := u_lay RX1 TX1 2) 192 rfl rfl, fun _ h => absurd h List.not_mem_nil⟩⟩⟩
theorem inT2 : ∀ w ∈ u_ws RX2 TX2 2, w ∈ TT := List.forall_mem_cons.mpr ⟨tq1 (w := u_lay RX2 TX2 0) 121 rfl rfl, List.forall_mem_cons.mpr ⟨tq1 (w := u_lay RX2 TX2 1) 123 rfl rfl, fun _ h => absurd h List.not_mem_nil⟩⟩
theorem inT3 : ∀ w ∈ u_ws RX3 TX3 2, w ∈ TT := List.forall_mem_cons.mpr ⟨tq1 (w := u_lay RX3 TX3 0) 108 rfl rfl, List.forall_mem_cons.mpr ⟨tq1 (w := u_lay RX3 TX3 1) 110 rfl rfl, fun _ h => absurd h List.not_mem_nil⟩⟩
theorem inT4 : ∀ w ∈ u_ws RX4 TX4 5, w ∈ TT := List.forall_mem_cons.mpr ⟨tq1 (w := u_lay RX4 TX4 0) 89 rfl rfl, List.forall_mem_cons.mpr ⟨tq1 (w := u_lay RX4 TX4 1) 91 rfl rfl, List.forall_mem_cons.mpr ⟨tq1 (w := u_lay RX4 TX4 2) 93 rfl rfl, List.forall_mem_cons.mpr ⟨tq1 (w := u_lay RX4 TX4 3) 95 rfl rfl, List.forall_mem_cons.mpr ⟨tq1 (w := u_lay RX4 TX4 4) 97 rfl rfl, fun _ h => absurd h List.not_mem_nil⟩⟩⟩⟩⟩
theorem inT7 : ∀ w ∈ u_ws RX7 TX7 5, w ∈ TT := List.forall_mem_cons.mpr ⟨tq1 (w := u_lay RX7 TX7 0) 221 rfl rfl, List.forall_mem_cons.mpr ⟨tq1 (w := u_lay RX7 TX7 1) 223 rfl rfl, List.forall_mem_cons.mpr ⟨tq1 (w := u_lay RX7 TX7 2) 225 rfl rfl, List.forall_mem_cons.mpr ⟨tq1 (w := u_lay RX7 TX7 3) 227 rfl rfl, List.forall_mem_cons.mpr ⟨tq1 (w := u_lay RX7 TX7 4) 229 rfl rfl, fun _ h => absurd h List.not_mem_nil⟩⟩⟩⟩⟩
theorem inT8 : ∀ w ∈ u_ws RX8 TX8 5, w ∈ TT := List.forall_mem_cons.mpr ⟨tq1 (w := u_lay RX8 TX8 0) 40 rfl rfl, List.forall_mem_cons.mpr ⟨tq1 (w := u_lay RX8 TX8 1) 42 rfl rfl, List.forall_mem_cons.mpr ⟨tq1 (w := u_lay RX8 TX8 2) 44 rfl rfl, List.forall_mem_cons.mpr ⟨tq1 (w := u_lay RX8 TX8 3) 46 rfl rfl, List.forall_mem_cons.mpr ⟨tq1 (w := u_lay RX8 TX8 4) 48 rfl rfl, fun _ h => absurd h List.not_mem_nil⟩⟩⟩⟩⟩
theorem inT9 : ∀ w ∈ u_ws RX9 TX9 5, w ∈ TT := List.forall_mem_cons.mpr ⟨tq1 (w := u_lay RX9 TX9 0) 63 rfl rfl, List.forall_mem_cons.mpr ⟨tq1 (w := u_lay RX9 TX9 1) 65 rfl rfl, List.forall_mem_cons.mpr ⟨tq1 (w := u_lay RX9 TX9 2) 67 rfl rfl, List.forall_mem_cons.mpr ⟨tq1 (w := u_lay RX9 TX9 3) 69 rfl rfl, List.forall_mem_cons.mpr ⟨tq1 (w := u_lay RX9 TX9 4) 71 rfl rfl, fun _ h => absurd h List.not_mem_nil⟩⟩⟩⟩⟩
theorem inT10 : ∀ w ∈ u_ws RX10 TX10 4, w ∈ TT := List.forall_mem_cons.mpr ⟨tq1 (w := u_lay RX10 TX10 0) 170 rfl rfl, List.forall_mem_cons.mpr ⟨tq1 (w := u_lay RX10 TX10 1) 172 rfl rfl, List.forall_mem_cons.mpr ⟨tq1 (w := u_lay RX10 TX10 2) 174 rfl rfl, List.forall_mem_cons.mpr ⟨tq1 (w := u_lay RX10 TX10 3) 176 rfl rfl, fun _ h => absurd h List.not_mem_nil⟩⟩⟩⟩
theorem inT11 : ∀ w ∈ u_ws RX11 TX11 12, w ∈ TT := List.forall_mem_cons.mpr ⟨tq2 (w := u_lay RX11 TX11 0) 4 rfl rfl, List.forall_mem_cons.mpr ⟨tq2 (w := u_lay RX11 TX11 1) 6 rfl rfl, List.forall_mem_cons.mpr ⟨tq2 (w := u_lay RX11 TX11 2) 8 rfl rfl, List.forall_mem_cons.mpr ⟨tq2 (w := u_lay RX11 TX11 3) 10 rfl rfl, List.forall_mem_cons.mpr ⟨tq2 (w := u_lay RX11 TX11 4) 12 rfl rfl, List.forall_mem_cons.mpr ⟨tq2 (w := u_lay RX11 TX11 5) 14 rfl rfl, List.forall_mem_cons.mpr ⟨tq2 (w := u_lay RX11 TX11 6) 16 rfl rfl, List.forall_mem_cons.mpr ⟨tq2 (w := u_lay RX11 TX11 7) 18 rfl rfl, List.forall_mem_cons.mpr ⟨tq2 (w := u_lay RX11 TX11 8) 20 rfl rfl, List.forall_mem_cons.mpr ⟨tq2 (w := u_lay RX11 TX11 9) 22 rfl rfl, List.forall_mem_cons.mpr ⟨tq2 (w := u_lay RX11 TX11 10) 24 rfl rfl, List.forall_mem_cons.mpr ⟨tq2 (w := u_lay RX11 TX11 11) 26 rfl rfl, fun _ h => absurd h List.not_mem_nil⟩⟩⟩⟩⟩⟩⟩⟩⟩⟩⟩⟩
theorem inT12 : ∀ w ∈ u_ws RX12 TX12 38, w ∈ TT := List.forall_mem_cons.mpr ⟨tq5 (w := u_lay RX12 TX12 0) 21 rfl rfl, List.forall_mem_cons.mpr ⟨tq5 (w := u_lay RX12 TX12 1) 23 rfl rfl, List.forall_mem_cons.mpr ⟨tq5 (w := u_lay RX12 TX12 2) 25 rfl rfl, List.forall_mem_cons.mpr ⟨tq5 (w := u_lay RX12 TX12 3) 27 rfl rfl, List.forall_mem_cons.mpr ⟨tq5 (w := u_lay RX12 TX12 4) 29 rfl rfl, List.forall_mem_cons.mpr ⟨tq5 (w := u_lay RX12 TX12 5) 31 rfl rfl, List.forall_mem_cons.mpr ⟨tq5 (w := u_lay RX12 TX12 6) 33 rfl rfl, List.forall_mem_cons.mpr ⟨tq5 (w := u_lay RX12 TX12 7) 35 rfl rfl, List.forall_mem_cons.mpr ⟨tq5 (w := u_lay RX12 TX12 8) 37 rfl rfl, List.forall_mem_cons.mpr ⟨tq5 (w := u_lay RX12 TX12 9) 39 rfl rfl, List.forall_mem_cons.mpr ⟨tq5 (w := u_lay RX12 TX12 10) 41 rfl rfl, List.forall_mem_cons.mpr ⟨tq5 (w := u_lay RX12 TX12 11) 43 rfl rfl, List.forall_mem_cons.mpr ⟨tq5 (w := u_lay RX12 TX12 12) 45 rfl rfl, List.forall_mem_cons.mpr ⟨tq5 (w := u_lay RX12 TX12 13) 47 rfl rfl, List.forall_mem_cons.mpr ⟨tq5 (w := u_lay RX12 TX12 14) 49 rfl rfl, List.forall_mem_cons.mpr ⟨tq5 (w := u_lay RX12 TX12 15) 51 rfl rfl, List.forall_mem_cons.mpr ⟨tq5 (w := u_lay RX12 TX12 16) 53 rfl rfl, List.forall_mem_cons.mpr ⟨tq5 (w := u_lay RX12 TX12 17) 55 rfl rfl, List.forall_mem_cons.mpr ⟨tq5 (w := u_lay RX12 TX12 18) 57 rfl rfl, List.forall_mem_cons.mpr ⟨tq5 (w := u_lay RX12 TX12 19) 59 rfl rfl, List.forall_mem_cons.mpr ⟨tq5 (w := u_lay RX12 TX12 20) 61 rfl rfl, List.forall_mem_cons.mpr ⟨tq5 (w := u_lay RX12 TX12 21) 63 rfl rfl, List.forall_mem_cons.mpr ⟨tq5 (w := u_lay RX12 TX12 22) 65 rfl rfl, List.forall_mem_cons.mpr ⟨tq5 (w := u_lay RX12 TX12 23) 67 rfl rfl, List.forall_mem_cons.mpr ⟨tq5 (w := u_lay RX12 TX12 24) 69 rfl rfl, List.forall_mem_cons.mpr ⟨tq5 (w := u_lay RX12 TX12 25) 71 rfl rfl, List.forall_mem_cons.mpr ⟨tq5 (w := u_lay RX12 TX12 26) 73 rfl rfl, List.forall_mem_cons.mpr ⟨tq5 (w := u_lay RX12 TX12 27) 75 rfl rfl, List.forall_mem_cons.mpr ⟨tq5 (w := u_lay RX12 TX12 28) 77 rfl rfl, List.forall_mem_cons.mpr ⟨tq5 (w := u_lay RX12 TX12 29) 79 rfl rfl, List.forall_mem_cons.mpr ⟨tq5 (w := u_lay RX12 TX12 30) 81 rfl rfl, List.forall_mem_cons.mpr ⟨tq5 (w := u_lay RX12 TX12 31) 83 rfl rfl, List.forall_mem_cons.mpr ⟨tq5 (w := u_lay RX12 TX12 32) 85 rfl rfl, List.forall_mem_cons.mpr ⟨tq5 (w := u_lay RX12 TX12 33) 87 rfl rfl, List.forall_mem_cons.mpr ⟨tq5 (w := u_lay RX12 TX12 34) 89 rfl rfl, List.forall_mem_cons.mpr ⟨tq5 (w := u_lay RX12 TX12 35) 91 rfl rfl, List.forall_mem_cons.mpr ⟨tq5 (w := u_lay RX12 TX12 36) 93 rfl rfl, List.forall_mem_cons.mpr ⟨tq5 (w := u_lay RX12 TX12 37) 95 rfl rfl, fun _ h => absurd h List.not_mem_nil⟩⟩⟩⟩⟩⟩⟩⟩⟩⟩⟩⟩⟩⟩⟩⟩⟩⟩⟩⟩⟩⟩⟩⟩⟩⟩⟩⟩⟩⟩⟩⟩⟩⟩⟩⟩⟩⟩

theorem tt_in {c c' : Cond} (h : c' ∈ TT) : GoodIn (c :: TT) (c' :: TT) := by
  intro w hw
  rcases List.mem_cons.mp hw with rfl | h2
  · exact ⟨List.mem_cons_of_mem _ h, (tt_good _ h).2⟩
  · exact ⟨List.mem_cons_of_mem _ h2, (tt_good _ h2).2⟩
theorem tt_in2 {c : Cond} {l l2 : List Cond} (h : ∀ w ∈ l, w ∈ TT) (h2 : GoodIn (c :: TT) l2) : GoodIn (c :: TT) (l ++ l2) := by
  intro w hw
  rcases List.mem_append.mp hw with h3 | h3
  · exact ⟨List.mem_cons_of_mem _ (h w h3), (tt_good _ (h w h3)).2⟩
  · exact h2 w h3
/-! ===== what the functions are made of ===== -/
def nm {α β : Type} (x : α) (k : α → β) : β := k x
def fu : Nat := 1000
def aget (n : Nat) (f : Nat → Int32) (i : Int32) : Option Int32 := if i < 0 ∨ n ≤ i.toNatClampNeg then none else some (f i.toNatClampNeg)
def aset (n : Nat) (f : Nat → Int32) (i x : Int32) : Option (Nat → Int32) := if i < 0 ∨ n ≤ i.toNatClampNeg then none else some (upd f i.toNatClampNeg x)
def agetL (n : Nat) (f : Nat → Int64) (i : Int32) : Option Int64 := if i < 0 ∨ n ≤ i.toNatClampNeg then none else some (f i.toNatClampNeg)
def asetL (n : Nat) (f : Nat → Int64) (i : Int32) (x : Int64) : Option (Nat → Int64) := if i < 0 ∨ n ≤ i.toNatClampNeg then none else some (vp_updL f i.toNatClampNeg x)
def orem (x y : Int32) : Option Int32 := if y = 0 then none else some (x - x / y * y)
def zb (x : Int32) : Option Int32 := if x = 0 ∨ x = 1 then some x else none
theorem ob {α β : Type} {o : Option α} {k : α → Option β} {b : β} {P : Prop} (h : o.bind k = some b) (c : ∀ a, o = some a → k a = some b → P) : P := by
  cases o with
  | none => simp at h
  | some a => exact c a rfl h
theorem aget_some {n : Nat} {f : Nat → Int32} {i v : Int32} (h : aget n f i = some v) : vp_in i n ∧ v = f i.toNatClampNeg := by
  unfold aget at h
  split at h
  · cases h
  · rename_i hc; exact ⟨hc, (Option.some.inj h).symm⟩
theorem aset_some {n : Nat} {f g : Nat → Int32} {i x : Int32} (h : aset n f i x = some g) : vp_in i n ∧ g = upd f i.toNatClampNeg x := by
  unfold aset at h
  split at h
  · cases h
  · rename_i hc; exact ⟨hc, (Option.some.inj h).symm⟩
theorem agetL_some {n : Nat} {f : Nat → Int64} {i : Int32} {v : Int64} (h : agetL n f i = some v) : vp_in i n ∧ v = f i.toNatClampNeg := by
  unfold agetL at h
  split at h
  · cases h
  · rename_i hc; exact ⟨hc, (Option.some.inj h).symm⟩
theorem asetL_some {n : Nat} {f g : Nat → Int64} {i : Int32} {x : Int64} (h : asetL n f i x = some g) : vp_in i n ∧ g = vp_updL f i.toNatClampNeg x := by
  unfold asetL at h
  split at h
  · cases h
  · rename_i hc; exact ⟨hc, (Option.some.inj h).symm⟩
theorem orem_some {x y v : Int32} (h : orem x y = some v) : ¬ y = 0 ∧ v = x - x / y * y := by
  unfold orem at h
  split at h
  · cases h
  · rename_i hc; exact ⟨hc, (Option.some.inj h).symm⟩
theorem zb_some {x v : Int32} (h : zb x = some v) : v = x ∧ narrow .boolean (.int x) = .int x := by
  unfold zb at h
  split at h
  · rename_i hc
    refine ⟨(Option.some.inj h).symm, ?_⟩
    rcases hc with rfl | rfl <;> rfl
  · cases h
/-! ===== the cells behind a call ===== -/
def wput : va_W → List Nat → va_W → va_W
  | ws, i :: is, q :: qs => wput (ws.set i q) is qs
  | ws, _, _ => ws
theorem wput_len : ∀ (is : List Nat) (ws qs : va_W), (wput ws is qs).length = ws.length
  | [], ws, qs => by cases qs <;> rfl
  | i :: is, ws, [] => rfl
  | i :: is, ws, q :: qs => by rw [wput, wput_len is, List.length_set]
theorem wput_at : ∀ (is : List Nat) (ws qs : va_W), va_nd is = true → is.length = qs.length → ∀ (k : Nat) (q : Nat × va_E), (wput ws is qs)[k]? = some q → (∃ j : Nat, is[j]? = some k ∧ qs[j]? = some q) ∨ (k ∉ is ∧ ws[k]? = some q)
  | [], ws, qs, _, hlen, k, q, h => by cases qs with
    | nil => exact Or.inr ⟨by simp, h⟩
    | cons a b => simp at hlen
  | i :: is, ws, [], _, hlen, k, q, h => by simp at hlen
  | i :: is, ws, x :: qs, hn, hlen, k, q, h => by
    simp only [va_nd, Bool.and_eq_true, decide_eq_true_eq] at hn
    rw [wput] at h
    rcases wput_at is (ws.set i x) qs hn.2 (by simpa using hlen) k q h with ⟨j, h1, h2⟩ | ⟨h1, h2⟩
    · exact Or.inl ⟨j + 1, by simpa using h1, by simpa using h2⟩
    · by_cases hk : k = i
      · subst hk
        have hl : k < ws.length := by
          have := (List.getElem?_eq_some_iff.mp h2).1
          simpa using this
        rw [List.getElem?_set_self hl] at h2
        exact Or.inl ⟨0, rfl, by simpa using h2⟩
      · rw [List.getElem?_set_ne (Ne.symm hk)] at h2
        exact Or.inr ⟨by simp [hk, h1], h2⟩
theorem wput_self : ∀ (is : List Nat) (ws qs : va_W), is.map (fun i => ws[i]?) = qs.map some → wput ws is qs = ws
  | [], ws, qs, _ => by cases qs <;> rfl
  | i :: is, ws, [], _ => rfl
  | i :: is, ws, q :: qs, h => by
    simp only [List.map_cons, List.cons.injEq] at h
    have h1 : ws.set i q = ws := by
      obtain ⟨hl, he⟩ := List.getElem?_eq_some_iff.mp h.1
      rw [← he]; exact List.set_getElem_self hl
    rw [wput, h1]
    exact wput_self is ws qs h.2
theorem wput_join {A0 : Nat → Prop} {D : va_G} {cl : List vw_C} {ws wc w1 : va_W} {H H1 : Heap} (hP : va_P D cl ws H) (hD : va_D A0 ws) (isC : List Nat) (hC : isC.map (fun i => ws[i]?) = wc.map some) (hn : va_nd isC = true) (ha : w1.map Prod.fst = wc.map Prod.fst)
    (hk : ∀ q : Nat, q < H.size → ¬ va_A wc H.size q → H1[q]? = H[q]?) (hP1 : va_P D cl w1 H1) : va_P D cl (wput ws isC w1) H1 ∧ va_D A0 (wput ws isC w1) := by
  have hlen : isC.length = w1.length := by
    have h1 := congrArg List.length hC
    have h2 := congrArg List.length ha
    simp at h1 h2
    omega
  have hwc : ∀ (j k : Nat) (q : Nat × va_E), isC[j]? = some k → w1[j]? = some q → ∃ e : va_E, wc[j]? = some (q.1, e) ∧ ws[k]? = some (q.1, e) := by
    intro j k q h1 h2
    have h3 : (wc.map Prod.fst)[j]? = some q.1 := by rw [← ha, List.getElem?_map, h2]; rfl
    rw [List.getElem?_map] at h3
    cases h4 : wc[j]? with
    | none => rw [h4] at h3; simp at h3
    | some x =>
      rw [h4] at h3
      have h5 : x.1 = q.1 := by simpa using h3
      have h6 : (isC.map (fun i => ws[i]?))[j]? = some (some x) := by rw [hC, List.getElem?_map, h4]; rfl
      rw [List.getElem?_map, h1] at h6
      have h7 : ws[k]? = some x := by simpa using h6
      exact ⟨x.2, by rw [← h5], by rw [h7, ← h5]⟩
  constructor
  · intro k q h
    rcases wput_at isC ws w1 hn hlen k q h with ⟨j, h1, h2⟩ | ⟨h1, h2⟩
    · exact hP1 j q h2
    · refine (hP k q h2).kept (hk q.1 (hP k q h2).lt ?_)
      rintro (⟨j, e, h3⟩ | h3)
      · have h6 : (isC.map (fun i => ws[i]?))[j]? = some (some (q.1, e)) := by rw [hC, List.getElem?_map, h3]; rfl
        rw [List.getElem?_map] at h6
        cases h7 : isC[j]? with
        | none => rw [h7] at h6; simp at h6
        | some i =>
          rw [h7] at h6
          have h8 : ws[i]? = some (q.1, e) := by simpa using h6
          have h9 := hD.1 k i q (q.1, e) h2 h8 rfl
          exact h1 (by rw [h9]; exact List.mem_of_getElem? h7)
      · exact absurd (hP k q h2).lt (Nat.not_lt.mpr h3)
  · have key : ∀ (k : Nat) (q : Nat × va_E), (wput ws isC w1)[k]? = some q → ∃ e : va_E, ws[k]? = some (q.1, e) := by
      intro k q h
      rcases wput_at isC ws w1 hn hlen k q h with ⟨j, h1, h2⟩ | ⟨h1, h2⟩
      · obtain ⟨e, -, h3⟩ := hwc j k q h1 h2
        exact ⟨e, h3⟩
      · exact ⟨q.2, h2⟩
    refine ⟨fun i j x y hi hj hxy => ?_, fun k q hk => ?_⟩
    · obtain ⟨e1, h1⟩ := key i x hi
      obtain ⟨e2, h2⟩ := key j y hj
      exact hD.1 i j _ _ h1 h2 hxy
    · obtain ⟨e1, h1⟩ := key k q hk
      exact hD.2 k (q.1, e1) h1
/-! ===== contracts and walks ===== -/
abbrev tyL (cB cI cJ cZ : ClassId) : List (ClassId × FieldType) := [(cB, .byte), (cI, .int), (cJ, .long), (cZ, .boolean)]
def PcM (D : va_G) (tys : List (ClassId × FieldType)) (Av : List Value) (w0 : va_W) (sz : Nat) : Array Value → State → Prop :=
  va_Pc Av (fun U => U.heap.size = sz ∧ va_P D vwCl w0 U.heap ∧ va_K D vwCl tys U ∧ va_D (fun _ => True) w0)
def QM (D : va_G) (tys : List (ClassId × FieldType)) (ov : Option Value) (w0 w1 : va_W) (sz : Nat) : Array Value → State → Outcome → State → Prop :=
  fun _ st oc t => (oc = .returned ov ∧ va_P D vwCl w1 t.heap ∧ va_K D vwCl tys t ∧ va_D (va_A w0 sz) w1) ∧ va_F (va_A w0 sz) st t
def gX (p : Program) (s : State) (m : MethodId) (args : Array Value) (meth : Method) (c : Code) (cc : ByteArray) (nL : Nat) (own : String) (D : va_G) (tys : List (ClassId × FieldType)) (A : Nat → Prop) : Prop :=
  p.tables.exec = Jvm.exec ∧ c.code = cc ∧ c.maxLocals = nL ∧ s.vm.findClass own = some m.cls ∧ (∀ w ∈ TT, w.before args s = true) ∧ va_K D vwCl tys s ∧ (∀ q, s.heap.size ≤ q → A q) ∧ meth.locks = false
def gW (p : Program) (l : Launch) (e : Env) (R : Room) (s : State) (m : MethodId) (args : Array Value) (below : List Frame) (meth : Method) (c : Code) (D : va_G) (A : Nat → Prop) (nL : Nat) (Q : State → Prop) (ws : va_W) (L : List (Nat × Value)) (pc : Nat) (stk : List Value) : Prop :=
  ∀ (H : Heap) (locs : List Loc) (ls : Array Slot), va_P D vwCl ws H → va_D A ws → va_S A s.heap H locs → lv_has ls nL L → W p l e R s m args below meth c H locs 0 0 Q (F0 m pc ls stk)
/-- the contract of method y: called with Av over the cells w0 it answers ov and leaves the cells w1 -/
def gM (l : Launch) (D : va_G) (tys : List (ClassId × FieldType)) (y : MethodName) (cc : ByteArray) (maxL : Nat) (ret : Option FieldType) (rm : Room) (Av : List Value) (w0 : va_W) (ov : Option Value) (w1 : va_W) : Prop :=
  ∀ sz : Nat, Met l y (.code y cc maxL ret :: TT) rm (PcM D tys Av w0 sz) (QM D tys ov w0 w1 sz) 0 0 (va_A w0 sz)
theorem met_of {l : Launch} {D : va_G} {tys : List (ClassId × FieldType)} {y : MethodName} {cc : ByteArray} {maxL : Nat} {ret : Option FieldType} {rm : Room} {Av : List Value} {w0 w1 : va_W} {ov : Option Value} (hy : plainName y.cls = true) (hn : (lg_sl Av).length ≤ maxL)
    (body : ∀ (p : Program) (e : Env) (s : State) (m : MethodId) (args : Array Value) (below : List Frame) (meth : Method) (c : Code) (A : Nat → Prop), gX p s m args meth c cc maxL y.cls D tys A → meth.sig.returnType = ret → A = va_A w0 s.heap.size →
      gW p l e rm s m args below meth c D A maxL (MQ below (QM D tys ov w0 w1 s.heap.size) args s 0 0 A) w0 (lv_args 0 Av) 0 []) : gM l D tys y cc maxL ret rm Av w0 ov w1 := by
  intro sz
  refine Met.ofW (cc := cc) (maxL := maxL) (ret := ret) hy rfl ?_
  intro p e s m args below meth c s₁ B hml hv
  obtain ⟨rfl, hsz, hP, hK, hD0⟩ := hv
  subst hsz
  have hts := atoms_spec (ws := .code y cc maxL ret :: TT) B.pre
  have hown : s.vm.findClass y.cls = some m.cls := findClass_of_methodNamed B.named
  have hD := hD0.self (sz := s.heap.size)
  rw [lg_entry_eq]
  exact body p e s m _ below meth c (va_A w0 s.heap.size) ⟨B.exec, B.bytes, hml, hown, fun w h => hts w (List.mem_cons_of_mem _ h), hK, fun q h => Or.inr h, B.notSynchronized⟩ B.returns rfl s.heap [] _ hP hD va_S.rf (lv_entry Av hn)
section GW
variable {p : Program} {l : Launch} {e : Env} {R : Room} {s : State} {m : MethodId} {args : Array Value} {below : List Frame} {meth : Method} {c : Code} {D : va_G} {tys : List (ClassId × FieldType)} {A : Nat → Prop} {nL : Nat} {Q : State → Prop} {cc : ByteArray} {own : String}
variable {ws : va_W} {L L' : List (Nat × Value)} {pc : Nat} {stk : List Value} {β : Type} {r : β}
theorem g_sub (ks : List Nat) (hl : lv_pick L ks = L') (kk : gW p l e R s m args below meth c D A nL Q ws L' pc stk) : gW p l e R s m args below meth c D A nL Q ws L pc stk :=
  fun H locs ls hP hD hS h => kk H locs ls hP hD hS (lv_sub h ks hl)
theorem g_iln (cx : gX p s m args meth c cc nL own D tys A) {k : Fin 4} {x : Int32} (j : Nat) (hd : decode cc pc = .ok (.iload_n k, 1)) (hl : L[j]? = some ((k : Nat), .int x)) (kk : gW p l e R s m args below meth c D A nL Q ws L (pc + 1) (.int x :: stk)) : gW p l e R s m args below meth c D A nL Q ws L pc stk :=
  fun H locs ls hP hD hS h => lv_iload_n cx.1 cx.2.1 hd rfl (lv_at h j hl) (kk H locs ls hP hD hS h)
theorem g_il (cx : gX p s m args meth c cc nL own D tys A) {i : Nat} {x : Int32} (j : Nat) (hd : decode cc pc = .ok (.iload i, 2)) (hl : L[j]? = some (i, .int x)) (kk : gW p l e R s m args below meth c D A nL Q ws L (pc + 2) (.int x :: stk)) : gW p l e R s m args below meth c D A nL Q ws L pc stk :=
  fun H locs ls hP hD hS h => lv_iload cx.1 cx.2.1 hd (lv_at h j hl) (kk H locs ls hP hD hS h)
theorem g_lln (cx : gX p s m args meth c cc nL own D tys A) {k : Fin 4} {x : Int64} (j : Nat) (hd : decode cc pc = .ok (.lload_n k, 1)) (hl : L[j]? = some ((k : Nat), .long x)) (kk : gW p l e R s m args below meth c D A nL Q ws L (pc + 1) (.long x :: stk)) : gW p l e R s m args below meth c D A nL Q ws L pc stk :=
  fun H locs ls hP hD hS h => lv_lload_n cx.1 cx.2.1 hd rfl (lv_at h j hl) (kk H locs ls hP hD hS h)
theorem g_ll (cx : gX p s m args meth c cc nL own D tys A) {i : Nat} {x : Int64} (j : Nat) (hd : decode cc pc = .ok (.lload i, 2)) (hl : L[j]? = some (i, .long x)) (kk : gW p l e R s m args below meth c D A nL Q ws L (pc + 2) (.long x :: stk)) : gW p l e R s m args below meth c D A nL Q ws L pc stk :=
  fun H locs ls hP hD hS h => lv_lload cx.1 cx.2.1 hd (lv_at h j hl) (kk H locs ls hP hD hS h)
theorem g_aln (cx : gX p s m args meth c cc nL own D tys A) {k : Fin 4} {x : Nat} (j : Nat) (hd : decode cc pc = .ok (.aload_n k, 1)) (hl : L[j]? = some ((k : Nat), .ref x)) (kk : gW p l e R s m args below meth c D A nL Q ws L (pc + 1) (.ref x :: stk)) : gW p l e R s m args below meth c D A nL Q ws L pc stk :=
  fun H locs ls hP hD hS h => lv_aload_n cx.1 cx.2.1 hd rfl (lv_at h j hl) (kk H locs ls hP hD hS h)
theorem g_al (cx : gX p s m args meth c cc nL own D tys A) {i : Nat} {x : Nat} (j : Nat) (hd : decode cc pc = .ok (.aload i, 2)) (hl : L[j]? = some (i, .ref x)) (kk : gW p l e R s m args below meth c D A nL Q ws L (pc + 2) (.ref x :: stk)) : gW p l e R s m args below meth c D A nL Q ws L pc stk :=
  fun H locs ls hP hD hS h => lv_aload cx.1 cx.2.1 hd (lv_at h j hl) (kk H locs ls hP hD hS h)
theorem g_ic (cx : gX p s m args meth c cc nL own D tys A) {n : Int} {v : Int32} (hd : decode cc pc = .ok (.iconst n, 1)) (hv : Int32.ofInt n = v) (kk : gW p l e R s m args below meth c D A nL Q ws L (pc + 1) (.int v :: stk)) : gW p l e R s m args below meth c D A nL Q ws L pc stk :=
  fun H locs ls hP hD hS h => lv_iconst cx.1 cx.2.1 hd hv (kk H locs ls hP hD hS h)
theorem g_bp (cx : gX p s m args meth c cc nL own D tys A) {n : Int} {v : Int32} (hd : decode cc pc = .ok (.bipush n, 2)) (hv : (Int8.ofInt n).toInt32 = v) (kk : gW p l e R s m args below meth c D A nL Q ws L (pc + 2) (.int v :: stk)) : gW p l e R s m args below meth c D A nL Q ws L pc stk :=
  fun H locs ls hP hD hS h => lv_bipush cx.1 cx.2.1 hd hv (kk H locs ls hP hD hS h)
theorem g_sp (cx : gX p s m args meth c cc nL own D tys A) {n : Int} {v : Int32} (hd : decode cc pc = .ok (.sipush n, 3)) (hv : (Int16.ofInt n).toInt32 = v) (kk : gW p l e R s m args below meth c D A nL Q ws L (pc + 3) (.int v :: stk)) : gW p l e R s m args below meth c D A nL Q ws L pc stk :=
  fun H locs ls hP hD hS h => lv_sipush cx.1 cx.2.1 hd hv (kk H locs ls hP hD hS h)
theorem g_lc (cx : gX p s m args meth c cc nL own D tys A) {n : Fin 2} {v : Int64} (hd : decode cc pc = .ok (.lconst n, 1)) (hv : Int64.ofNat (n : Nat) = v) (kk : gW p l e R s m args below meth c D A nL Q ws L (pc + 1) (.long v :: stk)) : gW p l e R s m args below meth c D A nL Q ws L pc stk :=
  fun H locs ls hP hD hS h => lv_lconst cx.1 cx.2.1 hd hv (kk H locs ls hP hD hS h)
theorem g_ldc (cx : gX p s m args meth c cc nL own D tys A) {n : Nat} {v : Int32} (hw : Cond.constant own n v ∈ TT) (hd : decode cc pc = .ok (.ldc n, 2)) (kk : gW p l e R s m args below meth c D A nL Q ws L (pc + 2) (.int v :: stk)) : gW p l e R s m args below meth c D A nL Q ws L pc stk :=
  fun H locs ls hP hD hS h => lv_ldc cx.1 cx.2.1 cx.2.2.2.1 (cx.2.2.2.2.1 _ hw) hd (kk H locs ls hP hD hS h)
theorem g_ldc2 (cx : gX p s m args meth c cc nL own D tys A) {n : Nat} {v : Int64} (hw : Cond.constantLong own n v ∈ TT) (hd : decode cc pc = .ok (.ldc2_w n, 3)) (kk : gW p l e R s m args below meth c D A nL Q ws L (pc + 3) (.long v :: stk)) : gW p l e R s m args below meth c D A nL Q ws L pc stk :=
  fun H locs ls hP hD hS h => lv_ldc2 cx.1 cx.2.1 cx.2.2.2.1 (cx.2.2.2.2.1 _ hw) hd (kk H locs ls hP hD hS h)
theorem g_ldcw (cx : gX p s m args meth c cc nL own D tys A) {n : Nat} {v : Int32} (hw : Cond.constant own n v ∈ TT) (hd : decode cc pc = .ok (.ldc_w n, 3)) (kk : gW p l e R s m args below meth c D A nL Q ws L (pc + 3) (.int v :: stk)) : gW p l e R s m args below meth c D A nL Q ws L pc stk :=
  fun H locs ls hP hD hS h => lv_ldcw cx.1 cx.2.1 cx.2.2.2.1 (cx.2.2.2.2.1 _ hw) hd (kk H locs ls hP hD hS h)
theorem g_isn (cx : gX p s m args meth c cc nL own D tys A) {k : Fin 4} {x : Int32} {kf : Int32 → Option β} {L2 : Int32 → List (Nat × Value)} (hf : nm x kf = some r) (hd : decode cc pc = .ok (.istore_n k, 1)) (hn : (k : Nat) < nL) (hl : ∀ x, ((k : Nat), Value.int x) :: L.filter (fun q => !(q.1 == (k : Nat)) && !(q.1 + 1 == (k : Nat) && q.2.category == 2)) = L2 x)
    (kk : ∀ y : Int32, kf y = some r → gW p l e R s m args below meth c D A nL Q ws (L2 y) (pc + 1) stk) : gW p l e R s m args below meth c D A nL Q ws L pc (.int x :: stk) :=
  fun H locs ls hP hD hS h => lv_istore_n cx.1 cx.2.1 hd rfl h hn (hl x) (fun ls2 h2 => kk x hf H locs ls2 hP hD hS h2)
theorem g_is (cx : gX p s m args meth c cc nL own D tys A) {i : Nat} {x : Int32} {kf : Int32 → Option β} {L2 : Int32 → List (Nat × Value)} (hf : nm x kf = some r) (hd : decode cc pc = .ok (.istore i, 2)) (hn : i < nL) (hl : ∀ x, (i, Value.int x) :: L.filter (fun q => !(q.1 == i) && !(q.1 + 1 == i && q.2.category == 2)) = L2 x)
    (kk : ∀ y : Int32, kf y = some r → gW p l e R s m args below meth c D A nL Q ws (L2 y) (pc + 2) stk) : gW p l e R s m args below meth c D A nL Q ws L pc (.int x :: stk) :=
  fun H locs ls hP hD hS h => lv_istore cx.1 cx.2.1 hd h hn (hl x) (fun ls2 h2 => kk x hf H locs ls2 hP hD hS h2)
theorem g_lsn (cx : gX p s m args meth c cc nL own D tys A) {k : Fin 4} {x : Int64} {kf : Int64 → Option β} {L2 : Int64 → List (Nat × Value)} (hf : nm x kf = some r) (hd : decode cc pc = .ok (.lstore_n k, 1)) (hn : (k : Nat) + 1 < nL) (hl : ∀ x, ((k : Nat), Value.long x) :: L.filter (fun q => !(q.1 == (k : Nat)) && (!(q.1 == (k : Nat) + 1) && !(q.1 + 1 == (k : Nat) && q.2.category == 2))) = L2 x)
    (kk : ∀ y : Int64, kf y = some r → gW p l e R s m args below meth c D A nL Q ws (L2 y) (pc + 1) stk) : gW p l e R s m args below meth c D A nL Q ws L pc (.long x :: stk) :=
  fun H locs ls hP hD hS h => lv_lstore_n cx.1 cx.2.1 hd rfl h hn (hl x) (fun ls2 h2 => kk x hf H locs ls2 hP hD hS h2)
theorem g_ls (cx : gX p s m args meth c cc nL own D tys A) {i : Nat} {x : Int64} {kf : Int64 → Option β} {L2 : Int64 → List (Nat × Value)} (hf : nm x kf = some r) (hd : decode cc pc = .ok (.lstore i, 2)) (hn : i + 1 < nL) (hl : ∀ x, (i, Value.long x) :: L.filter (fun q => !(q.1 == i) && (!(q.1 == i + 1) && !(q.1 + 1 == i && q.2.category == 2))) = L2 x)
    (kk : ∀ y : Int64, kf y = some r → gW p l e R s m args below meth c D A nL Q ws (L2 y) (pc + 2) stk) : gW p l e R s m args below meth c D A nL Q ws L pc (.long x :: stk) :=
  fun H locs ls hP hD hS h => lv_lstore cx.1 cx.2.1 hd h hn (hl x) (fun ls2 h2 => kk x hf H locs ls2 hP hD hS h2)
theorem g_asn (cx : gX p s m args meth c cc nL own D tys A) {k : Fin 4} {x : Nat} (hd : decode cc pc = .ok (.astore_n k, 1)) (hn : (k : Nat) < nL) (hl : ((k : Nat), Value.ref x) :: L.filter (fun q => !(q.1 == (k : Nat)) && !(q.1 + 1 == (k : Nat) && q.2.category == 2)) = L')
    (kk : gW p l e R s m args below meth c D A nL Q ws L' (pc + 1) stk) : gW p l e R s m args below meth c D A nL Q ws L pc (.ref x :: stk) :=
  fun H locs ls hP hD hS h => lv_astore_n cx.1 cx.2.1 hd rfl h hn hl (fun ls2 h2 => kk H locs ls2 hP hD hS h2)
theorem g_as (cx : gX p s m args meth c cc nL own D tys A) {i : Nat} {x : Nat} (hd : decode cc pc = .ok (.astore i, 2)) (hn : i < nL) (hl : (i, Value.ref x) :: L.filter (fun q => !(q.1 == i) && !(q.1 + 1 == i && q.2.category == 2)) = L')
    (kk : gW p l e R s m args below meth c D A nL Q ws L' (pc + 2) stk) : gW p l e R s m args below meth c D A nL Q ws L pc (.ref x :: stk) :=
  fun H locs ls hP hD hS h => lv_astore cx.1 cx.2.1 hd h hn hl (fun ls2 h2 => kk H locs ls2 hP hD hS h2)
theorem g_inc (cx : gX p s m args meth c cc nL own D tys A) {i : Nat} {n : Int} {x v : Int32} {kf : Int32 → Option β} {L2 : Int32 → List (Nat × Value)} (j : Nat) (hf : nm v kf = some r) (hd : decode cc pc = .ok (.iinc i n, 3)) (hk : L[j]? = some (i, .int x)) (hv : x + Int32.ofInt n = v) (hn : i < nL) (hl : ∀ v, (i, Value.int v) :: L.filter (fun q => !(q.1 == i) && !(q.1 + 1 == i && q.2.category == 2)) = L2 v)
    (kk : ∀ y : Int32, kf y = some r → gW p l e R s m args below meth c D A nL Q ws (L2 y) (pc + 3) stk) : gW p l e R s m args below meth c D A nL Q ws L pc stk :=
  fun H locs ls hP hD hS h => lv_iinc cx.1 cx.2.1 hd h hk hv hn (hl v) (fun ls2 h2 => kk v hf H locs ls2 hP hD hS h2)
theorem g_dup (cx : gX p s m args meth c cc nL own D tys A) {va : Value} (hd : decode cc pc = .ok (.dup, 1)) (h1 : va.category = 1) (kk : gW p l e R s m args below meth c D A nL Q ws L (pc + 1) (va :: va :: stk)) : gW p l e R s m args below meth c D A nL Q ws L pc (va :: stk) :=
  fun H locs ls hP hD hS h => lv_dup cx.1 cx.2.1 hd h1 (kk H locs ls hP hD hS h)
theorem g_dup2 (cx : gX p s m args meth c cc nL own D tys A) {va vb : Value} (hd : decode cc pc = .ok (.dup2, 1)) (h1 : va.category = 1) (h2 : vb.category = 1) (kk : gW p l e R s m args below meth c D A nL Q ws L (pc + 1) (va :: vb :: va :: vb :: stk)) : gW p l e R s m args below meth c D A nL Q ws L pc (va :: vb :: stk) :=
  fun H locs ls hP hD hS h => lv_dup2_11 cx.1 cx.2.1 hd h1 h2 (kk H locs ls hP hD hS h)
theorem g_pop (cx : gX p s m args meth c cc nL own D tys A) {va : Value} (hd : decode cc pc = .ok (.pop, 1)) (h1 : va.category = 1) (kk : gW p l e R s m args below meth c D A nL Q ws L (pc + 1) stk) : gW p l e R s m args below meth c D A nL Q ws L pc (va :: stk) :=
  fun H locs ls hP hD hS h => lv_pop cx.1 cx.2.1 hd h1 (kk H locs ls hP hD hS h)
theorem g_iadd (cx : gX p s m args meth c cc nL own D tys A) {x y : Int32} (hd : decode cc pc = .ok (.iadd, 1)) (kk : gW p l e R s m args below meth c D A nL Q ws L (pc + 1) (.int (x + y) :: stk)) : gW p l e R s m args below meth c D A nL Q ws L pc (.int y :: .int x :: stk) :=
  fun H locs ls hP hD hS h => lv_iadd cx.1 cx.2.1 hd (kk H locs ls hP hD hS h)
theorem g_isub (cx : gX p s m args meth c cc nL own D tys A) {x y : Int32} (hd : decode cc pc = .ok (.isub, 1)) (kk : gW p l e R s m args below meth c D A nL Q ws L (pc + 1) (.int (x - y) :: stk)) : gW p l e R s m args below meth c D A nL Q ws L pc (.int y :: .int x :: stk) :=
  fun H locs ls hP hD hS h => lv_isub cx.1 cx.2.1 hd (kk H locs ls hP hD hS h)
theorem g_imul (cx : gX p s m args meth c cc nL own D tys A) {x y : Int32} (hd : decode cc pc = .ok (.imul, 1)) (kk : gW p l e R s m args below meth c D A nL Q ws L (pc + 1) (.int (x * y) :: stk)) : gW p l e R s m args below meth c D A nL Q ws L pc (.int y :: .int x :: stk) :=
  fun H locs ls hP hD hS h => lv_imul cx.1 cx.2.1 hd (kk H locs ls hP hD hS h)
theorem g_iand (cx : gX p s m args meth c cc nL own D tys A) {x y : Int32} (hd : decode cc pc = .ok (.iand, 1)) (kk : gW p l e R s m args below meth c D A nL Q ws L (pc + 1) (.int (x &&& y) :: stk)) : gW p l e R s m args below meth c D A nL Q ws L pc (.int y :: .int x :: stk) :=
  fun H locs ls hP hD hS h => lv_iand cx.1 cx.2.1 hd (kk H locs ls hP hD hS h)
theorem g_ior (cx : gX p s m args meth c cc nL own D tys A) {x y : Int32} (hd : decode cc pc = .ok (.ior, 1)) (kk : gW p l e R s m args below meth c D A nL Q ws L (pc + 1) (.int (x ||| y) :: stk)) : gW p l e R s m args below meth c D A nL Q ws L pc (.int y :: .int x :: stk) :=
  fun H locs ls hP hD hS h => lv_ior cx.1 cx.2.1 hd (kk H locs ls hP hD hS h)
theorem g_ixor (cx : gX p s m args meth c cc nL own D tys A) {x y : Int32} (hd : decode cc pc = .ok (.ixor, 1)) (kk : gW p l e R s m args below meth c D A nL Q ws L (pc + 1) (.int (x ^^^ y) :: stk)) : gW p l e R s m args below meth c D A nL Q ws L pc (.int y :: .int x :: stk) :=
  fun H locs ls hP hD hS h => lv_ixor cx.1 cx.2.1 hd (kk H locs ls hP hD hS h)
theorem g_ishl (cx : gX p s m args meth c cc nL own D tys A) {x y : Int32} (hd : decode cc pc = .ok (.ishl, 1)) (kk : gW p l e R s m args below meth c D A nL Q ws L (pc + 1) (.int (x <<< (y &&& 31)) :: stk)) : gW p l e R s m args below meth c D A nL Q ws L pc (.int y :: .int x :: stk) :=
  fun H locs ls hP hD hS h => lv_ishl cx.1 cx.2.1 hd (kk H locs ls hP hD hS h)
theorem g_ishr (cx : gX p s m args meth c cc nL own D tys A) {x y : Int32} (hd : decode cc pc = .ok (.ishr, 1)) (kk : gW p l e R s m args below meth c D A nL Q ws L (pc + 1) (.int (x >>> (y &&& 31)) :: stk)) : gW p l e R s m args below meth c D A nL Q ws L pc (.int y :: .int x :: stk) :=
  fun H locs ls hP hD hS h => lv_ishr cx.1 cx.2.1 hd (kk H locs ls hP hD hS h)
theorem g_ladd (cx : gX p s m args meth c cc nL own D tys A) {x y : Int64} (hd : decode cc pc = .ok (.ladd, 1)) (kk : gW p l e R s m args below meth c D A nL Q ws L (pc + 1) (.long (x + y) :: stk)) : gW p l e R s m args below meth c D A nL Q ws L pc (.long y :: .long x :: stk) :=
  fun H locs ls hP hD hS h => lv_ladd cx.1 cx.2.1 hd (kk H locs ls hP hD hS h)
theorem g_lsub (cx : gX p s m args meth c cc nL own D tys A) {x y : Int64} (hd : decode cc pc = .ok (.lsub, 1)) (kk : gW p l e R s m args below meth c D A nL Q ws L (pc + 1) (.long (x - y) :: stk)) : gW p l e R s m args below meth c D A nL Q ws L pc (.long y :: .long x :: stk) :=
  fun H locs ls hP hD hS h => lv_lsub cx.1 cx.2.1 hd (kk H locs ls hP hD hS h)
theorem g_lmul (cx : gX p s m args meth c cc nL own D tys A) {x y : Int64} (hd : decode cc pc = .ok (.lmul, 1)) (kk : gW p l e R s m args below meth c D A nL Q ws L (pc + 1) (.long (x * y) :: stk)) : gW p l e R s m args below meth c D A nL Q ws L pc (.long y :: .long x :: stk) :=
  fun H locs ls hP hD hS h => lv_lmul cx.1 cx.2.1 hd (kk H locs ls hP hD hS h)
theorem g_land (cx : gX p s m args meth c cc nL own D tys A) {x y : Int64} (hd : decode cc pc = .ok (.land, 1)) (kk : gW p l e R s m args below meth c D A nL Q ws L (pc + 1) (.long (x &&& y) :: stk)) : gW p l e R s m args below meth c D A nL Q ws L pc (.long y :: .long x :: stk) :=
  fun H locs ls hP hD hS h => lv_land cx.1 cx.2.1 hd (kk H locs ls hP hD hS h)
theorem g_lor (cx : gX p s m args meth c cc nL own D tys A) {x y : Int64} (hd : decode cc pc = .ok (.lor, 1)) (kk : gW p l e R s m args below meth c D A nL Q ws L (pc + 1) (.long (x ||| y) :: stk)) : gW p l e R s m args below meth c D A nL Q ws L pc (.long y :: .long x :: stk) :=
  fun H locs ls hP hD hS h => lv_lor cx.1 cx.2.1 hd (kk H locs ls hP hD hS h)
theorem g_i2l (cx : gX p s m args meth c cc nL own D tys A) {x : Int32} (hd : decode cc pc = .ok (.i2l, 1)) (kk : gW p l e R s m args below meth c D A nL Q ws L (pc + 1) (.long x.toInt64 :: stk)) : gW p l e R s m args below meth c D A nL Q ws L pc (.int x :: stk) :=
  fun H locs ls hP hD hS h => lv_i2l cx.1 cx.2.1 hd rfl (kk H locs ls hP hD hS h)
theorem g_l2i (cx : gX p s m args meth c cc nL own D tys A) {x : Int64} (hd : decode cc pc = .ok (.l2i, 1)) (kk : gW p l e R s m args below meth c D A nL Q ws L (pc + 1) (.int x.toInt32 :: stk)) : gW p l e R s m args below meth c D A nL Q ws L pc (.long x :: stk) :=
  fun H locs ls hP hD hS h => lv_l2i cx.1 cx.2.1 hd rfl (kk H locs ls hP hD hS h)
theorem g_i2b (cx : gX p s m args meth c cc nL own D tys A) {x : Int32} (hd : decode cc pc = .ok (.i2b, 1)) (kk : gW p l e R s m args below meth c D A nL Q ws L (pc + 1) (.int x.toInt8.toInt32 :: stk)) : gW p l e R s m args below meth c D A nL Q ws L pc (.int x :: stk) :=
  fun H locs ls hP hD hS h => lv_i2b cx.1 cx.2.1 hd rfl (kk H locs ls hP hD hS h)
theorem g_iushr (cx : gX p s m args meth c cc nL own D tys A) {x y : Int32} (hd : decode cc pc = .ok (.iushr, 1)) (kk : gW p l e R s m args below meth c D A nL Q ws L (pc + 1) (.int (x.toUInt32 >>> (y.toUInt32 &&& Int32.toUInt32 31)).toInt32 :: stk)) : gW p l e R s m args below meth c D A nL Q ws L pc (.int y :: .int x :: stk) :=
  fun H locs ls hP hD hS h => lv_iushr cx.1 cx.2.1 hd rfl (kk H locs ls hP hD hS h)
theorem g_lushr (cx : gX p s m args meth c cc nL own D tys A) {x : Int64} {y : Int32} (hd : decode cc pc = .ok (.lushr, 1)) (kk : gW p l e R s m args below meth c D A nL Q ws L (pc + 1) (.long (x.toUInt64 >>> (y.toInt64.toUInt64 &&& Int64.toUInt64 63)).toInt64 :: stk)) : gW p l e R s m args below meth c D A nL Q ws L pc (.int y :: .long x :: stk) :=
  fun H locs ls hP hD hS h => lv_lushr cx.1 cx.2.1 hd rfl (kk H locs ls hP hD hS h)
theorem g_lshr (cx : gX p s m args meth c cc nL own D tys A) {x : Int64} {y : Int32} (hd : decode cc pc = .ok (.lshr, 1)) (kk : gW p l e R s m args below meth c D A nL Q ws L (pc + 1) (.long (x >>> (y.toInt64 &&& 63)) :: stk)) : gW p l e R s m args below meth c D A nL Q ws L pc (.int y :: .long x :: stk) :=
  fun H locs ls hP hD hS h => lv_lshr cx.1 cx.2.1 hd rfl (kk H locs ls hP hD hS h)
theorem g_lshl (cx : gX p s m args meth c cc nL own D tys A) {x : Int64} {y : Int32} (hd : decode cc pc = .ok (.lshl, 1)) (kk : gW p l e R s m args below meth c D A nL Q ws L (pc + 1) (.long (x <<< (y.toInt64 &&& 63)) :: stk)) : gW p l e R s m args below meth c D A nL Q ws L pc (.int y :: .long x :: stk) :=
  fun H locs ls hP hD hS h => lv_lshl cx.1 cx.2.1 hd rfl (kk H locs ls hP hD hS h)
theorem g_lcmp (cx : gX p s m args meth c cc nL own D tys A) {x y : Int64} (hd : decode cc pc = .ok (.lcmp, 1)) (kk : gW p l e R s m args below meth c D A nL Q ws L (pc + 1) (.int (lg_cmp x y) :: stk)) : gW p l e R s m args below meth c D A nL Q ws L pc (.long y :: .long x :: stk) :=
  fun H locs ls hP hD hS h => W.lcmp cx.1 cx.2.1 hd (kk H locs ls hP hD hS h)
theorem g_irem (cx : gX p s m args meth c cc nL own D tys A) {x y : Int32} {kf : Int32 → Option β} (hf : (orem x y).bind kf = some r) (hd : decode cc pc = .ok (.irem, 1)) (kk : ∀ v : Int32, kf v = some r → gW p l e R s m args below meth c D A nL Q ws L (pc + 1) (.int v :: stk)) : gW p l e R s m args below meth c D A nL Q ws L pc (.int y :: .int x :: stk) := by
  refine ob hf (fun v h1 hf => ?_)
  obtain ⟨h2, rfl⟩ := orem_some h1
  exact fun H locs ls hP hD hS h => lv_irem cx.1 cx.2.1 hd h2 (kk _ hf H locs ls hP hD hS h)
theorem g_goto (cx : gX p s m args meth c cc nL own D tys A) {off : Int} {tgt : Nat} (hd : decode cc pc = .ok (.goto off, 3)) (ht : (pc : Int) + off = (tgt : Int)) (kk : gW p l e R s m args below meth c D A nL Q ws L tgt stk) : gW p l e R s m args below meth c D A nL Q ws L pc stk :=
  fun H locs ls hP hD hS h => lv_goto cx.1 cx.2.1 hd ht (kk H locs ls hP hD hS h)
theorem g_nn (cx : gX p s m args meth c cc nL own D tys A) {off : Int} {tgt x : Nat} (hd : decode cc pc = .ok (.ifnonnull off, 3)) (ht : (pc : Int) + off = (tgt : Int)) (kk : gW p l e R s m args below meth c D A nL Q ws L tgt stk) : gW p l e R s m args below meth c D A nL Q ws L pc (.ref x :: stk) :=
  fun H locs ls hP hD hS h => lv_ifnonnull cx.1 cx.2.1 hd ht (kk H locs ls hP hD hS h)
theorem g_nl (cx : gX p s m args meth c cc nL own D tys A) {off : Int} {x : Nat} (hd : decode cc pc = .ok (.ifnull off, 3)) (kk : gW p l e R s m args below meth c D A nL Q ws L (pc + 3) stk) : gW p l e R s m args below meth c D A nL Q ws L pc (.ref x :: stk) :=
  fun H locs ls hP hD hS h => lv_ifnull cx.1 cx.2.1 hd (kk H locs ls hP hD hS h)
theorem g_if_eq (cx : gX p s m args meth c cc nL own D tys A) {x : Int32} {F G : Option β} {off : Int} {tgt : Nat} (hf : (if x = 0 then F else G) = some r) (hd : decode cc pc = .ok (.ifCond .eq off, 3)) (ht : (pc : Int) + off = (tgt : Int)) (k1 : F = some r → gW p l e R s m args below meth c D A nL Q ws L tgt stk) (k2 : G = some r → gW p l e R s m args below meth c D A nL Q ws L (pc + 3) stk) : gW p l e R s m args below meth c D A nL Q ws L pc (.int x :: stk) :=
  fun H locs ls hP hD hS h => lv_if_eq cx.1 cx.2.1 hd ht (fun q => k1 (by rw [if_pos q] at hf; exact hf) H locs ls hP hD hS h) (fun q => k2 (by rw [if_neg q] at hf; exact hf) H locs ls hP hD hS h)
theorem g_if_ne (cx : gX p s m args meth c cc nL own D tys A) {x : Int32} {F G : Option β} {off : Int} {tgt : Nat} (hf : (if x = 0 then F else G) = some r) (hd : decode cc pc = .ok (.ifCond .ne off, 3)) (ht : (pc : Int) + off = (tgt : Int)) (k1 : G = some r → gW p l e R s m args below meth c D A nL Q ws L tgt stk) (k2 : F = some r → gW p l e R s m args below meth c D A nL Q ws L (pc + 3) stk) : gW p l e R s m args below meth c D A nL Q ws L pc (.int x :: stk) :=
  fun H locs ls hP hD hS h => lv_if_ne cx.1 cx.2.1 hd ht (fun q => k1 (by rw [if_neg q] at hf; exact hf) H locs ls hP hD hS h) (fun q => k2 (by rw [if_pos q] at hf; exact hf) H locs ls hP hD hS h)
theorem g_if_lt (cx : gX p s m args meth c cc nL own D tys A) {x : Int32} {F G : Option β} {off : Int} {tgt : Nat} (hf : (if x < 0 then F else G) = some r) (hd : decode cc pc = .ok (.ifCond .lt off, 3)) (ht : (pc : Int) + off = (tgt : Int)) (k1 : F = some r → gW p l e R s m args below meth c D A nL Q ws L tgt stk) (k2 : G = some r → gW p l e R s m args below meth c D A nL Q ws L (pc + 3) stk) : gW p l e R s m args below meth c D A nL Q ws L pc (.int x :: stk) :=
  fun H locs ls hP hD hS h => lv_if_lt cx.1 cx.2.1 hd ht (fun q => k1 (by rw [if_pos q] at hf; exact hf) H locs ls hP hD hS h) (fun q => k2 (by rw [if_neg q] at hf; exact hf) H locs ls hP hD hS h)
theorem g_if_ge (cx : gX p s m args meth c cc nL own D tys A) {x : Int32} {F G : Option β} {off : Int} {tgt : Nat} (hf : (if 0 ≤ x then F else G) = some r) (hd : decode cc pc = .ok (.ifCond .ge off, 3)) (ht : (pc : Int) + off = (tgt : Int)) (k1 : F = some r → gW p l e R s m args below meth c D A nL Q ws L tgt stk) (k2 : G = some r → gW p l e R s m args below meth c D A nL Q ws L (pc + 3) stk) : gW p l e R s m args below meth c D A nL Q ws L pc (.int x :: stk) :=
  fun H locs ls hP hD hS h => lv_if_ge cx.1 cx.2.1 hd ht (fun q => k1 (by rw [if_pos q] at hf; exact hf) H locs ls hP hD hS h) (fun q => k2 (by rw [if_neg q] at hf; exact hf) H locs ls hP hD hS h)
theorem g_if_gt (cx : gX p s m args meth c cc nL own D tys A) {x : Int32} {F G : Option β} {off : Int} {tgt : Nat} (hf : (if 0 < x then F else G) = some r) (hd : decode cc pc = .ok (.ifCond .gt off, 3)) (ht : (pc : Int) + off = (tgt : Int)) (k1 : F = some r → gW p l e R s m args below meth c D A nL Q ws L tgt stk) (k2 : G = some r → gW p l e R s m args below meth c D A nL Q ws L (pc + 3) stk) : gW p l e R s m args below meth c D A nL Q ws L pc (.int x :: stk) :=
  fun H locs ls hP hD hS h => lv_if_gt cx.1 cx.2.1 hd ht (fun q => k1 (by rw [if_pos q] at hf; exact hf) H locs ls hP hD hS h) (fun q => k2 (by rw [if_neg q] at hf; exact hf) H locs ls hP hD hS h)
theorem g_if_le (cx : gX p s m args meth c cc nL own D tys A) {x : Int32} {F G : Option β} {off : Int} {tgt : Nat} (hf : (if x ≤ 0 then F else G) = some r) (hd : decode cc pc = .ok (.ifCond .le off, 3)) (ht : (pc : Int) + off = (tgt : Int)) (k1 : F = some r → gW p l e R s m args below meth c D A nL Q ws L tgt stk) (k2 : G = some r → gW p l e R s m args below meth c D A nL Q ws L (pc + 3) stk) : gW p l e R s m args below meth c D A nL Q ws L pc (.int x :: stk) :=
  fun H locs ls hP hD hS h => lv_if_le cx.1 cx.2.1 hd ht (fun q => k1 (by rw [if_pos q] at hf; exact hf) H locs ls hP hD hS h) (fun q => k2 (by rw [if_neg q] at hf; exact hf) H locs ls hP hD hS h)
theorem g_ic_eq (cx : gX p s m args meth c cc nL own D tys A) {x y : Int32} {F G : Option β} {off : Int} {tgt : Nat} (hf : (if x = y then F else G) = some r) (hd : decode cc pc = .ok (.if_icmp .eq off, 3)) (ht : (pc : Int) + off = (tgt : Int)) (k1 : F = some r → gW p l e R s m args below meth c D A nL Q ws L tgt stk) (k2 : G = some r → gW p l e R s m args below meth c D A nL Q ws L (pc + 3) stk) : gW p l e R s m args below meth c D A nL Q ws L pc (.int y :: .int x :: stk) :=
  fun H locs ls hP hD hS h => lv_icmp_eq cx.1 cx.2.1 hd ht (fun q => k1 (by rw [if_pos q] at hf; exact hf) H locs ls hP hD hS h) (fun q => k2 (by rw [if_neg q] at hf; exact hf) H locs ls hP hD hS h)
theorem g_ic_ne (cx : gX p s m args meth c cc nL own D tys A) {x y : Int32} {F G : Option β} {off : Int} {tgt : Nat} (hf : (if x = y then F else G) = some r) (hd : decode cc pc = .ok (.if_icmp .ne off, 3)) (ht : (pc : Int) + off = (tgt : Int)) (k1 : G = some r → gW p l e R s m args below meth c D A nL Q ws L tgt stk) (k2 : F = some r → gW p l e R s m args below meth c D A nL Q ws L (pc + 3) stk) : gW p l e R s m args below meth c D A nL Q ws L pc (.int y :: .int x :: stk) :=
  fun H locs ls hP hD hS h => lv_icmp_ne cx.1 cx.2.1 hd ht (fun q => k1 (by rw [if_neg q] at hf; exact hf) H locs ls hP hD hS h) (fun q => k2 (by rw [if_pos q] at hf; exact hf) H locs ls hP hD hS h)
theorem g_ic_lt (cx : gX p s m args meth c cc nL own D tys A) {x y : Int32} {F G : Option β} {off : Int} {tgt : Nat} (hf : (if x < y then F else G) = some r) (hd : decode cc pc = .ok (.if_icmp .lt off, 3)) (ht : (pc : Int) + off = (tgt : Int)) (k1 : F = some r → gW p l e R s m args below meth c D A nL Q ws L tgt stk) (k2 : G = some r → gW p l e R s m args below meth c D A nL Q ws L (pc + 3) stk) : gW p l e R s m args below meth c D A nL Q ws L pc (.int y :: .int x :: stk) :=
  fun H locs ls hP hD hS h => lv_icmp_lt cx.1 cx.2.1 hd ht (fun q => k1 (by rw [if_pos q] at hf; exact hf) H locs ls hP hD hS h) (fun q => k2 (by rw [if_neg q] at hf; exact hf) H locs ls hP hD hS h)
theorem g_ic_ge (cx : gX p s m args meth c cc nL own D tys A) {x y : Int32} {F G : Option β} {off : Int} {tgt : Nat} (hf : (if y ≤ x then F else G) = some r) (hd : decode cc pc = .ok (.if_icmp .ge off, 3)) (ht : (pc : Int) + off = (tgt : Int)) (k1 : F = some r → gW p l e R s m args below meth c D A nL Q ws L tgt stk) (k2 : G = some r → gW p l e R s m args below meth c D A nL Q ws L (pc + 3) stk) : gW p l e R s m args below meth c D A nL Q ws L pc (.int y :: .int x :: stk) :=
  fun H locs ls hP hD hS h => lv_icmp_ge cx.1 cx.2.1 hd ht (fun q => k1 (by rw [if_pos q] at hf; exact hf) H locs ls hP hD hS h) (fun q => k2 (by rw [if_neg q] at hf; exact hf) H locs ls hP hD hS h)
theorem g_ic_gt (cx : gX p s m args meth c cc nL own D tys A) {x y : Int32} {F G : Option β} {off : Int} {tgt : Nat} (hf : (if y < x then F else G) = some r) (hd : decode cc pc = .ok (.if_icmp .gt off, 3)) (ht : (pc : Int) + off = (tgt : Int)) (k1 : F = some r → gW p l e R s m args below meth c D A nL Q ws L tgt stk) (k2 : G = some r → gW p l e R s m args below meth c D A nL Q ws L (pc + 3) stk) : gW p l e R s m args below meth c D A nL Q ws L pc (.int y :: .int x :: stk) :=
  fun H locs ls hP hD hS h => lv_icmp_gt cx.1 cx.2.1 hd ht (fun q => k1 (by rw [if_pos q] at hf; exact hf) H locs ls hP hD hS h) (fun q => k2 (by rw [if_neg q] at hf; exact hf) H locs ls hP hD hS h)
theorem g_ic_le (cx : gX p s m args meth c cc nL own D tys A) {x y : Int32} {F G : Option β} {off : Int} {tgt : Nat} (hf : (if x ≤ y then F else G) = some r) (hd : decode cc pc = .ok (.if_icmp .le off, 3)) (ht : (pc : Int) + off = (tgt : Int)) (k1 : F = some r → gW p l e R s m args below meth c D A nL Q ws L tgt stk) (k2 : G = some r → gW p l e R s m args below meth c D A nL Q ws L (pc + 3) stk) : gW p l e R s m args below meth c D A nL Q ws L pc (.int y :: .int x :: stk) :=
  fun H locs ls hP hD hS h => lv_icmp_le cx.1 cx.2.1 hd ht (fun q => k1 (by rw [if_pos q] at hf; exact hf) H locs ls hP hD hS h) (fun q => k2 (by rw [if_neg q] at hf; exact hf) H locs ls hP hD hS h)
/-- a field is read -/
theorem g_get (cx : gX p s m args meth c cc nL own D tys A) {ref C : String} {T : u_T} {N ci index a : Nat} {fs : List Value} {v : Value} (hin : ∀ w ∈ u_ws C T N, w ∈ TT) (hc : vwCl[ci]? = some (C, T, N)) (k : Nat) (hk : k < N) (hlink : Cond.fieldLink own index ref (T k).2.1 (T k).2.2.1 ∈ TT) (hsame : (T k).1 = ref)
    (q0 : Nat) (he : ws[q0]? = some (a, .inr (ci, fs))) (hv : fs[k]? = some v) (hd : decode cc pc = .ok (.getfield index, 3)) (kk : gW p l e R s m args below meth c D A nL Q ws L (pc + 3) (v :: stk)) : gW p l e R s m args below meth c D A nL Q ws L pc (.ref a :: stk) :=
  fun H locs ls hP hD hS h => va_get cx.1 cx.2.1 cx.2.2.2.2.1 hin cx.2.2.2.1 cx.2.2.2.2.2.1 hP q0 he hc k hk (cx.2.2.2.2.1 _ hlink) (fun x hx => by rw [← hsame]; exact hx) hv hd (kk H locs ls hP hD hS h)
/-- a field is written; its cells' state gets a new name -/
theorem g_put (cx : gX p s m args meth c cc nL own D tys A) {ref C : String} {T : u_T} {N ci index a : Nat} {fs : List Value} {v : Value} {ty0 : Nat → FieldType} (hin : ∀ w ∈ u_ws C T N, w ∈ TT) (hty : ∀ k, k < N → parseFieldDescriptor (T k).2.2.1 = some (ty0 k)) (hnm : ∀ a, a < N → ∀ b, b < N → a ≠ b → (T a).2.1 ≠ (T b).2.1) (hc : vwCl[ci]? = some (C, T, N)) (k : Nat) (hk : k < N) (hlink : Cond.fieldLink own index ref (T k).2.1 (T k).2.2.1 ∈ TT) (hsame : (T k).1 = ref)
    (hfin : (T k).2.2.2 = false) {ty : FieldType} (hde : parseFieldDescriptor (T k).2.2.1 = some ty) (hnr : narrow ty v = v) (hft : fits ty v = true)
    (q0 : Nat) (he : ws[q0]? = some (a, .inr (ci, fs))) (hl : k < fs.length) {ws' : va_W} (hw : ws.set q0 (a, .inr (ci, fs.set k v)) = ws') (hd : decode cc pc = .ok (.putfield index, 3)) (kk : gW p l e R s m args below meth c D A nL Q ws' L (pc + 3) stk) : gW p l e R s m args below meth c D A nL Q ws L pc (v :: .ref a :: stk) := by
  subst hw
  exact fun H locs ls hP hD hS h => va_put cx.1 cx.2.1 cx.2.2.2.2.1 hin ty0 hty hnm cx.2.2.2.1 cx.2.2.2.2.2.1 hP hD hS q0 he hc k hk (cx.2.2.2.2.1 _ hlink) (fun x hx => by rw [← hsame]; exact hx) hfin hde hnr hft hl hd (fun H1 locs1 hP hD hS => kk H1 locs1 ls hP hD hS h)
theorem g_alen (cx : gX p s m args meth c cc nL own D tys A) (q0 t0 : Nat) {a : Nat} {cA : ClassId} {x : vp_A} {ty : FieldType} {v : Int32} (he : ws[q0]? = some (a, .inl (cA, x))) (ht : tys[t0]? = some (cA, ty)) (hv : Int32.ofNat x.1 = v) (hd : decode cc pc = .ok (.arraylength, 1)) (kk : gW p l e R s m args below meth c D A nL Q ws L (pc + 1) (.int v :: stk)) : gW p l e R s m args below meth c D A nL Q ws L pc (.ref a :: stk) :=
  fun H locs ls hP hD hS h => va_alen cx.1 cx.2.1 cx.2.2.2.2.2.1 hP q0 t0 he ht hv hd (kk H locs ls hP hD hS h)
theorem g_iald (cx : gX p s m args meth c cc nL own D tys A) (q0 t0 : Nat) {a n : Nat} {cA : ClassId} {f : Nat → Int32} {i : Int32} {kf : Int32 → Option β} (hf : (aget n f i).bind kf = some r) (he : ws[q0]? = some (a, .inl (cA, n, .inl f))) (ht : tys[t0]? = some (cA, .int)) (hd : decode cc pc = .ok (.iaload, 1)) (kk : ∀ v : Int32, kf v = some r → gW p l e R s m args below meth c D A nL Q ws L (pc + 1) (.int v :: stk)) : gW p l e R s m args below meth c D A nL Q ws L pc (.int i :: .ref a :: stk) := by
  refine ob hf (fun v h1 hf => ?_)
  obtain ⟨h2, rfl⟩ := aget_some h1
  exact fun H locs ls hP hD hS h => va_iald cx.1 cx.2.1 cx.2.2.2.2.2.1 hP q0 t0 he ht h2 hd (kk _ hf H locs ls hP hD hS h)
theorem g_bald (cx : gX p s m args meth c cc nL own D tys A) (q0 t0 : Nat) {a n : Nat} {cA : ClassId} {f : Nat → Int32} {i : Int32} {kf : Int32 → Option β} (hf : (aget n f i).bind kf = some r) (he : ws[q0]? = some (a, .inl (cA, n, .inl f))) (ht : tys[t0]? = some (cA, .byte)) (hd : decode cc pc = .ok (.baload, 1)) (kk : ∀ v : Int32, kf v = some r → gW p l e R s m args below meth c D A nL Q ws L (pc + 1) (.int v :: stk)) : gW p l e R s m args below meth c D A nL Q ws L pc (.int i :: .ref a :: stk) := by
  refine ob hf (fun v h1 hf => ?_)
  obtain ⟨h2, rfl⟩ := aget_some h1
  exact fun H locs ls hP hD hS h => va_bald cx.1 cx.2.1 cx.2.2.2.2.2.1 hP q0 t0 he ht h2 hd (kk _ hf H locs ls hP hD hS h)
theorem g_zald (cx : gX p s m args meth c cc nL own D tys A) (q0 t0 : Nat) {a n : Nat} {cA : ClassId} {f : Nat → Int32} {i : Int32} {kf : Int32 → Option β} (hf : (aget n f i).bind kf = some r) (he : ws[q0]? = some (a, .inl (cA, n, .inl f))) (ht : tys[t0]? = some (cA, .boolean)) (hd : decode cc pc = .ok (.baload, 1)) (kk : ∀ v : Int32, kf v = some r → gW p l e R s m args below meth c D A nL Q ws L (pc + 1) (.int v :: stk)) : gW p l e R s m args below meth c D A nL Q ws L pc (.int i :: .ref a :: stk) := by
  refine ob hf (fun v h1 hf => ?_)
  obtain ⟨h2, rfl⟩ := aget_some h1
  exact fun H locs ls hP hD hS h => va_zald cx.1 cx.2.1 cx.2.2.2.2.2.1 hP q0 t0 he ht h2 hd (kk _ hf H locs ls hP hD hS h)
theorem g_lald (cx : gX p s m args meth c cc nL own D tys A) (q0 t0 : Nat) {a n : Nat} {cA : ClassId} {f : Nat → Int64} {i : Int32} {kf : Int64 → Option β} (hf : (agetL n f i).bind kf = some r) (he : ws[q0]? = some (a, .inl (cA, n, .inr (.inl f)))) (ht : tys[t0]? = some (cA, .long)) (hd : decode cc pc = .ok (.laload, 1)) (kk : ∀ v : Int64, kf v = some r → gW p l e R s m args below meth c D A nL Q ws L (pc + 1) (.long v :: stk)) : gW p l e R s m args below meth c D A nL Q ws L pc (.int i :: .ref a :: stk) := by
  refine ob hf (fun v h1 hf => ?_)
  obtain ⟨h2, rfl⟩ := agetL_some h1
  exact fun H locs ls hP hD hS h => va_lald cx.1 cx.2.1 cx.2.2.2.2.2.1 hP q0 t0 he ht h2 hd (kk _ hf H locs ls hP hD hS h)
theorem g_iast (cx : gX p s m args meth c cc nL own D tys A) (q0 t0 : Nat) {a n : Nat} {cA : ClassId} {f : Nat → Int32} {i x : Int32} {kf : (Nat → Int32) → Option β} {ws' : (Nat → Int32) → va_W} (hf : (aset n f i x).bind kf = some r) (he : ws[q0]? = some (a, .inl (cA, n, .inl f))) (ht : tys[t0]? = some (cA, .int)) (hw : ∀ f, ws.set q0 (a, .inl (cA, n, .inl f)) = ws' f) (hd : decode cc pc = .ok (.iastore, 1)) (kk : ∀ f, kf f = some r → gW p l e R s m args below meth c D A nL Q (ws' f) L (pc + 1) stk) : gW p l e R s m args below meth c D A nL Q ws L pc (.int x :: .int i :: .ref a :: stk) := by
  refine ob hf (fun v h1 hf => ?_)
  obtain ⟨h2, rfl⟩ := aset_some h1
  exact fun H locs ls hP hD hS h => va_iast cx.1 cx.2.1 cx.2.2.2.2.2.1 hP hD hS q0 t0 he ht h2 hd (fun H1 locs1 hP hD hS => kk _ hf H1 locs1 ls (by rw [← hw]; exact hP) (by rw [← hw]; exact hD) hS h)
theorem g_bast (cx : gX p s m args meth c cc nL own D tys A) (q0 t0 : Nat) {a n : Nat} {cA : ClassId} {f : Nat → Int32} {i x : Int32} {kf : (Nat → Int32) → Option β} {ws' : (Nat → Int32) → va_W} (hf : (aset n f i (vp_nar .byte x)).bind kf = some r) (he : ws[q0]? = some (a, .inl (cA, n, .inl f))) (ht : tys[t0]? = some (cA, .byte)) (hw : ∀ f, ws.set q0 (a, .inl (cA, n, .inl f)) = ws' f) (hd : decode cc pc = .ok (.bastore, 1)) (kk : ∀ f, kf f = some r → gW p l e R s m args below meth c D A nL Q (ws' f) L (pc + 1) stk) : gW p l e R s m args below meth c D A nL Q ws L pc (.int x :: .int i :: .ref a :: stk) := by
  refine ob hf (fun v h1 hf => ?_)
  obtain ⟨h2, rfl⟩ := aset_some h1
  exact fun H locs ls hP hD hS h => va_bast cx.1 cx.2.1 cx.2.2.2.2.2.1 hP hD hS q0 t0 he ht h2 hd (fun H1 locs1 hP hD hS => kk _ hf H1 locs1 ls (by rw [← hw]; exact hP) (by rw [← hw]; exact hD) hS h)
theorem g_zast (cx : gX p s m args meth c cc nL own D tys A) (q0 t0 : Nat) {a n : Nat} {cA : ClassId} {f : Nat → Int32} {i x : Int32} {kf : (Nat → Int32) → Option β} {ws' : (Nat → Int32) → va_W} (hf : (aset n f i (vp_nar .boolean x)).bind kf = some r) (he : ws[q0]? = some (a, .inl (cA, n, .inl f))) (ht : tys[t0]? = some (cA, .boolean)) (hw : ∀ f, ws.set q0 (a, .inl (cA, n, .inl f)) = ws' f) (hd : decode cc pc = .ok (.bastore, 1)) (kk : ∀ f, kf f = some r → gW p l e R s m args below meth c D A nL Q (ws' f) L (pc + 1) stk) : gW p l e R s m args below meth c D A nL Q ws L pc (.int x :: .int i :: .ref a :: stk) := by
  refine ob hf (fun v h1 hf => ?_)
  obtain ⟨h2, rfl⟩ := aset_some h1
  exact fun H locs ls hP hD hS h => va_zast cx.1 cx.2.1 cx.2.2.2.2.2.1 hP hD hS q0 t0 he ht h2 hd (fun H1 locs1 hP hD hS => kk _ hf H1 locs1 ls (by rw [← hw]; exact hP) (by rw [← hw]; exact hD) hS h)
theorem g_last (cx : gX p s m args meth c cc nL own D tys A) (q0 t0 : Nat) {a n : Nat} {cA : ClassId} {f : Nat → Int64} {i : Int32} {x : Int64} {kf : (Nat → Int64) → Option β} {ws' : (Nat → Int64) → va_W} (hf : (asetL n f i x).bind kf = some r) (he : ws[q0]? = some (a, .inl (cA, n, .inr (.inl f)))) (ht : tys[t0]? = some (cA, .long)) (hw : ∀ f, ws.set q0 (a, .inl (cA, n, .inr (.inl f))) = ws' f) (hd : decode cc pc = .ok (.lastore, 1)) (kk : ∀ f, kf f = some r → gW p l e R s m args below meth c D A nL Q (ws' f) L (pc + 1) stk) : gW p l e R s m args below meth c D A nL Q ws L pc (.long x :: .int i :: .ref a :: stk) := by
  refine ob hf (fun v h1 hf => ?_)
  obtain ⟨h2, rfl⟩ := asetL_some h1
  exact fun H locs ls hP hD hS h => va_last cx.1 cx.2.1 cx.2.2.2.2.2.1 hP hD hS q0 t0 he ht h2 hd (fun H1 locs1 hP hD hS => kk _ hf H1 locs1 ls (by rw [← hw]; exact hP) (by rw [← hw]; exact hD) hS h)
/-- a new name for a state -/
theorem g_nm {α : Type} {x : α} {kf : α → Option β} {w : α → va_W} (hf : nm x kf = some r) (kk : ∀ y : α, kf y = some r → gW p l e R s m args below meth c D A nL Q (w y) L pc stk) : gW p l e R s m args below meth c D A nL Q (w x) L pc stk := kk x hf
/-! returns -/
theorem g_iret {w0 : va_W} {ovf : β → Option Value} {wf : β → va_W} {b0 : β} {x : Int32} (cx : gX p s m args meth c cc nL own D tys A) (hA : A = va_A w0 s.heap.size) (hr : meth.sig.returnType = some .int) (hf : some b0 = some r) (h1 : ovf b0 = some (.int x)) (h2 : wf b0 = ws) (hd : decode cc pc = .ok (.ireturn, 1)) : gW p l e R s m args below meth c D A nL (MQ below (QM D tys (ovf r) w0 (wf r) s.heap.size) args s 0 0 A) ws L pc [.int x] := by
  cases hf
  rw [h1, h2]
  subst hA
  exact fun H locs ls hP hD hS h => W.iret cx.1 cx.2.1 hr (fun t ht hW => ⟨⟨rfl, by rw [ht]; exact hP, va_K.moved hW.alike cx.2.2.2.2.2.1, hD⟩, hS.F ht⟩) hS.2.2 hd cx.2.2.2.2.2.2.2
theorem g_zret {w0 : va_W} {ovf : β → Option Value} {wf : β → va_W} {b0 : β} {x : Int32} (cx : gX p s m args meth c cc nL own D tys A) (hA : A = va_A w0 s.heap.size) (hr : meth.sig.returnType = some .boolean) (hz : narrow .boolean (.int x) = .int x) (hf : some b0 = some r) (h1 : ovf b0 = some (.int x)) (h2 : wf b0 = ws) (hd : decode cc pc = .ok (.ireturn, 1)) : gW p l e R s m args below meth c D A nL (MQ below (QM D tys (ovf r) w0 (wf r) s.heap.size) args s 0 0 A) ws L pc [.int x] := by
  cases hf
  rw [h1, h2]
  subst hA
  exact fun H locs ls hP hD hS h => W.zret cx.1 cx.2.1 hr hz (fun t ht hW => ⟨⟨rfl, by rw [ht]; exact hP, va_K.moved hW.alike cx.2.2.2.2.2.1, hD⟩, hS.F ht⟩) hS.2.2 hd cx.2.2.2.2.2.2.2
theorem g_lret {w0 : va_W} {ovf : β → Option Value} {wf : β → va_W} {b0 : β} {x : Int64} (cx : gX p s m args meth c cc nL own D tys A) (hA : A = va_A w0 s.heap.size) (hr : meth.sig.returnType = some .long) (hf : some b0 = some r) (h1 : ovf b0 = some (.long x)) (h2 : wf b0 = ws) (hd : decode cc pc = .ok (.lreturn, 1)) : gW p l e R s m args below meth c D A nL (MQ below (QM D tys (ovf r) w0 (wf r) s.heap.size) args s 0 0 A) ws L pc [.long x] := by
  cases hf
  rw [h1, h2]
  subst hA
  exact fun H locs ls hP hD hS h => W.lret cx.1 cx.2.1 hr (fun t ht hW => ⟨⟨rfl, by rw [ht]; exact hP, va_K.moved hW.alike cx.2.2.2.2.2.1, hD⟩, hS.F ht⟩) hS.2.2 hd cx.2.2.2.2.2.2.2
theorem g_vret {w0 : va_W} {ovf : β → Option Value} {wf : β → va_W} {b0 : β} (cx : gX p s m args meth c cc nL own D tys A) (hA : A = va_A w0 s.heap.size) (hr : meth.sig.returnType = none) (hf : some b0 = some r) (h1 : ovf b0 = none) (h2 : wf b0 = ws) (hd : decode cc pc = .ok (.return_, 1)) : gW p l e R s m args below meth c D A nL (MQ below (QM D tys (ovf r) w0 (wf r) s.heap.size) args s 0 0 A) ws L pc [] := by
  cases hf
  rw [h1, h2]
  subst hA
  exact fun H locs ls hP hD hS h => W.vret cx.1 cx.2.1 hr (fun t ht hW => ⟨⟨rfl, by rw [ht]; exact hP, va_K.moved hW.alike cx.2.2.2.2.2.1, hD⟩, hS.F ht⟩) hS.2.2 hd cx.2.2.2.2.2.2.2
theorem g_aret {w0 : va_W} {ovf : β → Option Value} {wf : β → va_W} {b0 : β} {x : Nat} {C : String} (cx : gX p s m args meth c cc nL own D tys A) (hA : A = va_A w0 s.heap.size) (hr : meth.sig.returnType = some (.object C)) (hf : some b0 = some r) (h1 : ovf b0 = some (.ref x)) (h2 : wf b0 = ws) (hd : decode cc pc = .ok (.areturn, 1)) : gW p l e R s m args below meth c D A nL (MQ below (QM D tys (ovf r) w0 (wf r) s.heap.size) args s 0 0 A) ws L pc [.ref x] := by
  cases hf
  rw [h1, h2]
  subst hA
  exact fun H locs ls hP hD hS h => W.aret cx.1 cx.2.1 hr (Or.inl ⟨C, rfl⟩) (Or.inr ⟨x, rfl⟩) (fun t ht hW => ⟨⟨rfl, by rw [ht]; exact hP, va_K.moved hW.alike cx.2.2.2.2.2.1, hD⟩, hS.F ht⟩) hS.2.2 hd cx.2.2.2.2.2.2.2
/-! calls -/
theorem g_blind {Av : List Value} {w0 : va_W} {sz : Nat} : FrameBlind (PcM D tys Av w0 sz) := fun a U g mk q => by
  obtain ⟨q0, q1, qP, qK, qD⟩ := q
  exact ⟨q0, q1, qP, va_K.moved (u := U) (U := U.calling g mk a) (Vm.Alike.refl U.vm) qK, qD⟩
theorem g_run {H : Heap} {locs : List Loc} {ls : Array Slot} {rest stk0 : List Value} {wc wc1 ws' : va_W} {ov : Option Value} {a : Array Value} (cx : gX p s m args meth c cc nL own D tys A) (isC : List Nat) (hC : isC.map (fun i => ws[i]?) = wc.map some) (hn : va_nd isC = true) (ha : wc1.map Prod.fst = wc.map Prod.fst) (hw : wput ws isC wc1 = ws') (kk : gW p l e R s m args below meth c D A nL Q ws' L (pc + 3) (ov.toList ++ rest))
    (hP : va_P D vwCl ws H) (hD : va_D A ws) (hS : va_S A s.heap H locs) (hl : lv_has ls nL L) (hr : va_Run p l e R s m args below meth c H locs 0 0 0 0 (F0 m pc ls stk0) rest (QM D tys ov wc wc1 H.size a) (va_A wc H.size)) : W p l e R s m args below meth c H locs 0 0 Q (F0 m pc ls stk0) := by
  subst hw
  have hF := va_free hD hS cx.2.2.2.2.2.2.1 isC hC
  intro T hT X
  obtain ⟨v, st₀, t, T', Lo, h0, X', hL, e1, e2, ⟨⟨hv, hP1, hK1, hD1⟩, hz, hk⟩, st⟩ := hr T hT X
  cases hv
  rw [h0] at hz hk
  rw [← e1] at hz hk hP1
  obtain ⟨hP2, hD2⟩ := wput_join hP hD isC hC hn ha (fun q h1 h2 => hk q h1 h2) hP1
  obtain ⟨t2, a1, b1⟩ := kk T'.heap (locs ++ Lo) ls hP2 hD2 ⟨Nat.le_trans hS.1 hz, fun q h1 h2 => by
      rw [hk q (Nat.lt_of_lt_of_le h1 hS.1) (fun z => h2 (hF q z))]; exact hS.2.1 q h1 h2, fun q hq => by
      rcases List.mem_append.mp hq with h | h
      · exact hS.2.2 q h
      · exact hF _ (hL q h)⟩ hl T' rfl X'
  exact ⟨t2, st t2 a1, b1⟩
/-- the words of a virtual call -/
def vlk (own : String) (idx : Nat) (y : MethodName) (cy : ByteArray) (nY : Nat) (ret : Option FieldType) (n : Nat) : Prop :=
  (∀ w ∈ ([.methodLink own idx y, .instanceMethod y, .selects y.cls y y, .initialized y.cls] : List Cond), w ∈ TT) ∧ Cond.code y cy nY ret ∈ TT ∧ y.cls ≠ "java/lang/invoke/MethodHandle" ∧ y.cls ≠ "java/lang/invoke/VarHandle" ∧ (parseMethodDescriptor y.desc).map (fun d => d.parameters.length) = some n
/-- the words of a static call -/
def slk (own : String) (idx : Nat) (y : MethodName) (cy : ByteArray) (nY : Nat) (ret : Option FieldType) (n : Nat) : Prop :=
  (∀ w ∈ ([.methodLink own idx y, .static y, .initialized y.cls] : List Cond), w ∈ TT) ∧ Cond.code y cy nY ret ∈ TT ∧ y.cls ≠ "java/lang/invoke/MethodHandle" ∧ y.cls ≠ "java/lang/invoke/VarHandle" ∧ (parseMethodDescriptor y.desc).map (fun d => d.parameters.length) = some n
theorem g_callV {y : MethodName} {cy : ByteArray} {nY n idx b ci q1 : Nat} {ret : Option FieldType} {rm : Room} {As rest : List Value} {wc wc1 ws' : va_W} {ov : Option Value} {fs : List Value} {T : u_T} {N : Nat} (cx : gX p s m args meth c cc nL own D tys A) (lk : vlk own idx y cy nY ret n) (hM : gM l D tys y cy nY ret rm (.ref b :: As) wc ov wc1) (hlen : As.length = n)
    (isC : List Nat) (hC : isC.map (fun i => ws[i]?) = wc.map some) (hn : va_nd isC = true) (ha : wc1.map Prod.fst = wc.map Prod.fst) (hw : wput ws isC wc1 = ws') (hci : vwCl[ci]? = some (y.cls, T, N)) (hrc : wc[q1]? = some (b, .inr (ci, fs))) (hst : stk = As.reverse ++ .ref b :: rest) (hcat : (rest.map fun v => v.category).sum ≤ 8)
    (hR : rm.cells = 0 ∧ rm.slots = 0 ∧ rm.frames + 1 ≤ R.frames ∧ 8 + (nY + 11) + rm.locals ≤ R.locals) (hd : decode cc pc = .ok (.invokevirtual idx, 3)) (kk : gW p l e R s m args below meth c D A nL Q ws' L (pc + 3) (ov.toList ++ rest)) : gW p l e R s m args below meth c D A nL Q ws L pc stk := by
  intro H locs ls hP hD hS hl
  have hPc : va_P D vwCl wc H := fun k q hk => by
    have h1 : (isC.map (fun i => ws[i]?))[k]? = some (some q) := by rw [hC, List.getElem?_map, hk]; rfl
    rw [List.getElem?_map] at h1
    cases hi : isC[k]? with
    | none => rw [hi] at h1; cases h1
    | some i => rw [hi] at h1; exact hP i q (Option.some.inj h1)
  have hDc : va_D A wc := hD.sub isC hn hC
  have hG : GoodIn (Cond.code y cy nY ret :: TT) (wsV own idx y.cls y (.code y cy nY ret :: TT)) := tt_in2 lk.1 (tt_in lk.2.1)
  have hts : ∀ w ∈ (Cond.code y cy nY ret :: TT), w.before args s = true := fun w h => by
    rcases List.mem_cons.mp h with rfl | h
    · exact cx.2.2.2.2.1 _ lk.2.1
    · exact cx.2.2.2.2.1 _ h
  exact g_run cx isC hC hn ha hw kk hP hD hS hl (va_runV (As := As) (rest := rest) ⟨cx.1, cx.2.1, cx.2.2.1, cx.2.2.2.1, hts⟩ (hM H.size) (cwV n hts hG rfl hR.1 hR.2.1 ⟨rfl, lk.2.2⟩ hR.2.2) ⟨g_blind, va_recv cx.2.2.2.2.2.1 hPc hci hrc, fun U hU hW => ⟨rfl, by rw [hU], by rw [hU]; exact hPc, va_K.moved hW.alike cx.2.2.2.2.2.1, hDc.weaken (fun _ _ _ _ => trivial)⟩⟩ rfl hlen hl.1 hst (lv_room hcat) hd ⟨Nat.zero_le _, Nat.zero_le _⟩)
theorem g_callS {y : MethodName} {cy : ByteArray} {nY n idx : Nat} {ret : Option FieldType} {rm : Room} {As rest : List Value} {wc wc1 ws' : va_W} {ov : Option Value} (cx : gX p s m args meth c cc nL own D tys A) (lk : slk own idx y cy nY ret n) (hM : gM l D tys y cy nY ret rm As wc ov wc1) (hlen : As.length = n)
    (isC : List Nat) (hC : isC.map (fun i => ws[i]?) = wc.map some) (hn : va_nd isC = true) (ha : wc1.map Prod.fst = wc.map Prod.fst) (hw : wput ws isC wc1 = ws') (hst : stk = As.reverse ++ rest) (hcat : (rest.map fun v => v.category).sum ≤ 8)
    (hR : rm.cells = 0 ∧ rm.slots = 0 ∧ rm.frames + 1 ≤ R.frames ∧ 8 + (nY + 11) + rm.locals ≤ R.locals) (hd : decode cc pc = .ok (.invokestatic idx, 3)) (kk : gW p l e R s m args below meth c D A nL Q ws' L (pc + 3) (ov.toList ++ rest)) : gW p l e R s m args below meth c D A nL Q ws L pc stk := by
  intro H locs ls hP hD hS hl
  have hPc : va_P D vwCl wc H := fun k q hk => by
    have h1 : (isC.map (fun i => ws[i]?))[k]? = some (some q) := by rw [hC, List.getElem?_map, hk]; rfl
    rw [List.getElem?_map] at h1
    cases hi : isC[k]? with
    | none => rw [hi] at h1; cases h1
    | some i => rw [hi] at h1; exact hP i q (Option.some.inj h1)
  have hDc : va_D A wc := hD.sub isC hn hC
  have hG : GoodIn (Cond.code y cy nY ret :: TT) (va_wsS own idx y (.code y cy nY ret :: TT)) := tt_in2 lk.1 (tt_in lk.2.1)
  have hts : ∀ w ∈ (Cond.code y cy nY ret :: TT), w.before args s = true := fun w h => by
    rcases List.mem_cons.mp h with rfl | h
    · exact cx.2.2.2.2.1 _ lk.2.1
    · exact cx.2.2.2.2.1 _ h
  exact g_run cx isC hC hn ha hw kk hP hD hS hl (va_runS (As := As) (rest := rest) ⟨cx.1, cx.2.1, cx.2.2.1, cx.2.2.2.1, hts⟩ (hM H.size) (va_cwS n hts hG rfl hR.1 hR.2.1 lk.2.2 hR.2.2) ⟨g_blind, fun U hU hW => ⟨rfl, by rw [hU], by rw [hU]; exact hPc, va_K.moved hW.alike cx.2.2.2.2.2.1, hDc.weaken (fun _ _ _ _ => trivial)⟩⟩ rfl hlen hl.1 hst (lv_room hcat) hd ⟨Nat.zero_le _, Nat.zero_le _⟩)
theorem g_callVi {y : MethodName} {cy : ByteArray} {nY n idx b ci q1 : Nat} {ret : Option FieldType} {rm : Room} {As rest : List Value} {wc wc1 ws' : va_W} {xr : Int32} {fs : List Value} {T : u_T} {N : Nat} (cx : gX p s m args meth c cc nL own D tys A) (lk : vlk own idx y cy nY ret n) (hM : gM l D tys y cy nY ret rm (.ref b :: As) wc (some (.int xr)) wc1) (hlen : As.length = n) (isC : List Nat) (hC : isC.map (fun i => ws[i]?) = wc.map some) (hn : va_nd isC = true) (ha : wc1.map Prod.fst = wc.map Prod.fst) (hw : wput ws isC wc1 = ws') (hci : vwCl[ci]? = some (y.cls, T, N)) (hrc : wc[q1]? = some (b, .inr (ci, fs))) (hst : stk = As.reverse ++ .ref b :: rest) (hcat : (rest.map fun v => v.category).sum ≤ 8) (hR : rm.cells = 0 ∧ rm.slots = 0 ∧ rm.frames + 1 ≤ R.frames ∧ 8 + (nY + 11) + rm.locals ≤ R.locals) (hd : decode cc pc = .ok (.invokevirtual idx, 3)) (kk : gW p l e R s m args below meth c D A nL Q ws' L (pc + 3) (.int xr :: rest)) : gW p l e R s m args below meth c D A nL Q ws L pc stk :=
  g_callV cx lk hM hlen isC hC hn ha hw hci hrc hst hcat hR hd kk
theorem g_callViR {y : MethodName} {cy : ByteArray} {nY n idx b ci q1 : Nat} {ret : Option FieldType} {rm : Room} {As rest : List Value} {wc : va_W} {xr : Int32} {fs : List Value} {T : u_T} {N : Nat} (cx : gX p s m args meth c cc nL own D tys A) (lk : vlk own idx y cy nY ret n) (hM : gM l D tys y cy nY ret rm (.ref b :: As) wc (some (.int xr)) wc) (hlen : As.length = n) (isC : List Nat) (hC : isC.map (fun i => ws[i]?) = wc.map some) (hn : va_nd isC = true) (hci : vwCl[ci]? = some (y.cls, T, N)) (hrc : wc[q1]? = some (b, .inr (ci, fs))) (hst : stk = As.reverse ++ .ref b :: rest) (hcat : (rest.map fun v => v.category).sum ≤ 8) (hR : rm.cells = 0 ∧ rm.slots = 0 ∧ rm.frames + 1 ≤ R.frames ∧ 8 + (nY + 11) + rm.locals ≤ R.locals) (hd : decode cc pc = .ok (.invokevirtual idx, 3)) (kk : gW p l e R s m args below meth c D A nL Q ws L (pc + 3) (.int xr :: rest)) : gW p l e R s m args below meth c D A nL Q ws L pc stk :=
  g_callV cx lk hM hlen isC hC hn rfl (wput_self isC ws wc hC) hci hrc hst hcat hR hd kk
theorem g_callVl {y : MethodName} {cy : ByteArray} {nY n idx b ci q1 : Nat} {ret : Option FieldType} {rm : Room} {As rest : List Value} {wc wc1 ws' : va_W} {xr : Int64} {fs : List Value} {T : u_T} {N : Nat} (cx : gX p s m args meth c cc nL own D tys A) (lk : vlk own idx y cy nY ret n) (hM : gM l D tys y cy nY ret rm (.ref b :: As) wc (some (.long xr)) wc1) (hlen : As.length = n) (isC : List Nat) (hC : isC.map (fun i => ws[i]?) = wc.map some) (hn : va_nd isC = true) (ha : wc1.map Prod.fst = wc.map Prod.fst) (hw : wput ws isC wc1 = ws') (hci : vwCl[ci]? = some (y.cls, T, N)) (hrc : wc[q1]? = some (b, .inr (ci, fs))) (hst : stk = As.reverse ++ .ref b :: rest) (hcat : (rest.map fun v => v.category).sum ≤ 8) (hR : rm.cells = 0 ∧ rm.slots = 0 ∧ rm.frames + 1 ≤ R.frames ∧ 8 + (nY + 11) + rm.locals ≤ R.locals) (hd : decode cc pc = .ok (.invokevirtual idx, 3)) (kk : gW p l e R s m args below meth c D A nL Q ws' L (pc + 3) (.long xr :: rest)) : gW p l e R s m args below meth c D A nL Q ws L pc stk :=
  g_callV cx lk hM hlen isC hC hn ha hw hci hrc hst hcat hR hd kk
theorem g_callVlR {y : MethodName} {cy : ByteArray} {nY n idx b ci q1 : Nat} {ret : Option FieldType} {rm : Room} {As rest : List Value} {wc : va_W} {xr : Int64} {fs : List Value} {T : u_T} {N : Nat} (cx : gX p s m args meth c cc nL own D tys A) (lk : vlk own idx y cy nY ret n) (hM : gM l D tys y cy nY ret rm (.ref b :: As) wc (some (.long xr)) wc) (hlen : As.length = n) (isC : List Nat) (hC : isC.map (fun i => ws[i]?) = wc.map some) (hn : va_nd isC = true) (hci : vwCl[ci]? = some (y.cls, T, N)) (hrc : wc[q1]? = some (b, .inr (ci, fs))) (hst : stk = As.reverse ++ .ref b :: rest) (hcat : (rest.map fun v => v.category).sum ≤ 8) (hR : rm.cells = 0 ∧ rm.slots = 0 ∧ rm.frames + 1 ≤ R.frames ∧ 8 + (nY + 11) + rm.locals ≤ R.locals) (hd : decode cc pc = .ok (.invokevirtual idx, 3)) (kk : gW p l e R s m args below meth c D A nL Q ws L (pc + 3) (.long xr :: rest)) : gW p l e R s m args below meth c D A nL Q ws L pc stk :=
  g_callV cx lk hM hlen isC hC hn rfl (wput_self isC ws wc hC) hci hrc hst hcat hR hd kk
theorem g_callVr {y : MethodName} {cy : ByteArray} {nY n idx b ci q1 : Nat} {ret : Option FieldType} {rm : Room} {As rest : List Value} {wc wc1 ws' : va_W} {xr : Nat} {fs : List Value} {T : u_T} {N : Nat} (cx : gX p s m args meth c cc nL own D tys A) (lk : vlk own idx y cy nY ret n) (hM : gM l D tys y cy nY ret rm (.ref b :: As) wc (some (.ref xr)) wc1) (hlen : As.length = n) (isC : List Nat) (hC : isC.map (fun i => ws[i]?) = wc.map some) (hn : va_nd isC = true) (ha : wc1.map Prod.fst = wc.map Prod.fst) (hw : wput ws isC wc1 = ws') (hci : vwCl[ci]? = some (y.cls, T, N)) (hrc : wc[q1]? = some (b, .inr (ci, fs))) (hst : stk = As.reverse ++ .ref b :: rest) (hcat : (rest.map fun v => v.category).sum ≤ 8) (hR : rm.cells = 0 ∧ rm.slots = 0 ∧ rm.frames + 1 ≤ R.frames ∧ 8 + (nY + 11) + rm.locals ≤ R.locals) (hd : decode cc pc = .ok (.invokevirtual idx, 3)) (kk : gW p l e R s m args below meth c D A nL Q ws' L (pc + 3) (.ref xr :: rest)) : gW p l e R s m args below meth c D A nL Q ws L pc stk :=
  g_callV cx lk hM hlen isC hC hn ha hw hci hrc hst hcat hR hd kk
theorem g_callVrR {y : MethodName} {cy : ByteArray} {nY n idx b ci q1 : Nat} {ret : Option FieldType} {rm : Room} {As rest : List Value} {wc : va_W} {xr : Nat} {fs : List Value} {T : u_T} {N : Nat} (cx : gX p s m args meth c cc nL own D tys A) (lk : vlk own idx y cy nY ret n) (hM : gM l D tys y cy nY ret rm (.ref b :: As) wc (some (.ref xr)) wc) (hlen : As.length = n) (isC : List Nat) (hC : isC.map (fun i => ws[i]?) = wc.map some) (hn : va_nd isC = true) (hci : vwCl[ci]? = some (y.cls, T, N)) (hrc : wc[q1]? = some (b, .inr (ci, fs))) (hst : stk = As.reverse ++ .ref b :: rest) (hcat : (rest.map fun v => v.category).sum ≤ 8) (hR : rm.cells = 0 ∧ rm.slots = 0 ∧ rm.frames + 1 ≤ R.frames ∧ 8 + (nY + 11) + rm.locals ≤ R.locals) (hd : decode cc pc = .ok (.invokevirtual idx, 3)) (kk : gW p l e R s m args below meth c D A nL Q ws L (pc + 3) (.ref xr :: rest)) : gW p l e R s m args below meth c D A nL Q ws L pc stk :=
  g_callV cx lk hM hlen isC hC hn rfl (wput_self isC ws wc hC) hci hrc hst hcat hR hd kk
theorem g_callVv {y : MethodName} {cy : ByteArray} {nY n idx b ci q1 : Nat} {ret : Option FieldType} {rm : Room} {As rest : List Value} {wc wc1 ws' : va_W} {fs : List Value} {T : u_T} {N : Nat} (cx : gX p s m args meth c cc nL own D tys A) (lk : vlk own idx y cy nY ret n) (hM : gM l D tys y cy nY ret rm (.ref b :: As) wc none wc1) (hlen : As.length = n) (isC : List Nat) (hC : isC.map (fun i => ws[i]?) = wc.map some) (hn : va_nd isC = true) (ha : wc1.map Prod.fst = wc.map Prod.fst) (hw : wput ws isC wc1 = ws') (hci : vwCl[ci]? = some (y.cls, T, N)) (hrc : wc[q1]? = some (b, .inr (ci, fs))) (hst : stk = As.reverse ++ .ref b :: rest) (hcat : (rest.map fun v => v.category).sum ≤ 8) (hR : rm.cells = 0 ∧ rm.slots = 0 ∧ rm.frames + 1 ≤ R.frames ∧ 8 + (nY + 11) + rm.locals ≤ R.locals) (hd : decode cc pc = .ok (.invokevirtual idx, 3)) (kk : gW p l e R s m args below meth c D A nL Q ws' L (pc + 3) rest) : gW p l e R s m args below meth c D A nL Q ws L pc stk :=
  g_callV cx lk hM hlen isC hC hn ha hw hci hrc hst hcat hR hd kk
theorem g_callVvR {y : MethodName} {cy : ByteArray} {nY n idx b ci q1 : Nat} {ret : Option FieldType} {rm : Room} {As rest : List Value} {wc : va_W} {fs : List Value} {T : u_T} {N : Nat} (cx : gX p s m args meth c cc nL own D tys A) (lk : vlk own idx y cy nY ret n) (hM : gM l D tys y cy nY ret rm (.ref b :: As) wc none wc) (hlen : As.length = n) (isC : List Nat) (hC : isC.map (fun i => ws[i]?) = wc.map some) (hn : va_nd isC = true) (hci : vwCl[ci]? = some (y.cls, T, N)) (hrc : wc[q1]? = some (b, .inr (ci, fs))) (hst : stk = As.reverse ++ .ref b :: rest) (hcat : (rest.map fun v => v.category).sum ≤ 8) (hR : rm.cells = 0 ∧ rm.slots = 0 ∧ rm.frames + 1 ≤ R.frames ∧ 8 + (nY + 11) + rm.locals ≤ R.locals) (hd : decode cc pc = .ok (.invokevirtual idx, 3)) (kk : gW p l e R s m args below meth c D A nL Q ws L (pc + 3) rest) : gW p l e R s m args below meth c D A nL Q ws L pc stk :=
  g_callV cx lk hM hlen isC hC hn rfl (wput_self isC ws wc hC) hci hrc hst hcat hR hd kk
theorem g_callSi {y : MethodName} {cy : ByteArray} {nY n idx : Nat} {ret : Option FieldType} {rm : Room} {As rest : List Value} {wc wc1 ws' : va_W} {xr : Int32} (cx : gX p s m args meth c cc nL own D tys A) (lk : slk own idx y cy nY ret n) (hM : gM l D tys y cy nY ret rm As wc (some (.int xr)) wc1) (hlen : As.length = n) (isC : List Nat) (hC : isC.map (fun i => ws[i]?) = wc.map some) (hn : va_nd isC = true) (ha : wc1.map Prod.fst = wc.map Prod.fst) (hw : wput ws isC wc1 = ws') (hst : stk = As.reverse ++ rest) (hcat : (rest.map fun v => v.category).sum ≤ 8) (hR : rm.cells = 0 ∧ rm.slots = 0 ∧ rm.frames + 1 ≤ R.frames ∧ 8 + (nY + 11) + rm.locals ≤ R.locals) (hd : decode cc pc = .ok (.invokestatic idx, 3)) (kk : gW p l e R s m args below meth c D A nL Q ws' L (pc + 3) (.int xr :: rest)) : gW p l e R s m args below meth c D A nL Q ws L pc stk :=
  g_callS cx lk hM hlen isC hC hn ha hw hst hcat hR hd kk
theorem g_callSiR {y : MethodName} {cy : ByteArray} {nY n idx : Nat} {ret : Option FieldType} {rm : Room} {As rest : List Value} {wc : va_W} {xr : Int32} (cx : gX p s m args meth c cc nL own D tys A) (lk : slk own idx y cy nY ret n) (hM : gM l D tys y cy nY ret rm As wc (some (.int xr)) wc) (hlen : As.length = n) (isC : List Nat) (hC : isC.map (fun i => ws[i]?) = wc.map some) (hn : va_nd isC = true) (hst : stk = As.reverse ++ rest) (hcat : (rest.map fun v => v.category).sum ≤ 8) (hR : rm.cells = 0 ∧ rm.slots = 0 ∧ rm.frames + 1 ≤ R.frames ∧ 8 + (nY + 11) + rm.locals ≤ R.locals) (hd : decode cc pc = .ok (.invokestatic idx, 3)) (kk : gW p l e R s m args below meth c D A nL Q ws L (pc + 3) (.int xr :: rest)) : gW p l e R s m args below meth c D A nL Q ws L pc stk :=
  g_callS cx lk hM hlen isC hC hn rfl (wput_self isC ws wc hC) hst hcat hR hd kk
theorem g_callSl {y : MethodName} {cy : ByteArray} {nY n idx : Nat} {ret : Option FieldType} {rm : Room} {As rest : List Value} {wc wc1 ws' : va_W} {xr : Int64} (cx : gX p s m args meth c cc nL own D tys A) (lk : slk own idx y cy nY ret n) (hM : gM l D tys y cy nY ret rm As wc (some (.long xr)) wc1) (hlen : As.length = n) (isC : List Nat) (hC : isC.map (fun i => ws[i]?) = wc.map some) (hn : va_nd isC = true) (ha : wc1.map Prod.fst = wc.map Prod.fst) (hw : wput ws isC wc1 = ws') (hst : stk = As.reverse ++ rest) (hcat : (rest.map fun v => v.category).sum ≤ 8) (hR : rm.cells = 0 ∧ rm.slots = 0 ∧ rm.frames + 1 ≤ R.frames ∧ 8 + (nY + 11) + rm.locals ≤ R.locals) (hd : decode cc pc = .ok (.invokestatic idx, 3)) (kk : gW p l e R s m args below meth c D A nL Q ws' L (pc + 3) (.long xr :: rest)) : gW p l e R s m args below meth c D A nL Q ws L pc stk :=
  g_callS cx lk hM hlen isC hC hn ha hw hst hcat hR hd kk
theorem g_callSlR {y : MethodName} {cy : ByteArray} {nY n idx : Nat} {ret : Option FieldType} {rm : Room} {As rest : List Value} {wc : va_W} {xr : Int64} (cx : gX p s m args meth c cc nL own D tys A) (lk : slk own idx y cy nY ret n) (hM : gM l D tys y cy nY ret rm As wc (some (.long xr)) wc) (hlen : As.length = n) (isC : List Nat) (hC : isC.map (fun i => ws[i]?) = wc.map some) (hn : va_nd isC = true) (hst : stk = As.reverse ++ rest) (hcat : (rest.map fun v => v.category).sum ≤ 8) (hR : rm.cells = 0 ∧ rm.slots = 0 ∧ rm.frames + 1 ≤ R.frames ∧ 8 + (nY + 11) + rm.locals ≤ R.locals) (hd : decode cc pc = .ok (.invokestatic idx, 3)) (kk : gW p l e R s m args below meth c D A nL Q ws L (pc + 3) (.long xr :: rest)) : gW p l e R s m args below meth c D A nL Q ws L pc stk :=
  g_callS cx lk hM hlen isC hC hn rfl (wput_self isC ws wc hC) hst hcat hR hd kk
theorem g_callSr {y : MethodName} {cy : ByteArray} {nY n idx : Nat} {ret : Option FieldType} {rm : Room} {As rest : List Value} {wc wc1 ws' : va_W} {xr : Nat} (cx : gX p s m args meth c cc nL own D tys A) (lk : slk own idx y cy nY ret n) (hM : gM l D tys y cy nY ret rm As wc (some (.ref xr)) wc1) (hlen : As.length = n) (isC : List Nat) (hC : isC.map (fun i => ws[i]?) = wc.map some) (hn : va_nd isC = true) (ha : wc1.map Prod.fst = wc.map Prod.fst) (hw : wput ws isC wc1 = ws') (hst : stk = As.reverse ++ rest) (hcat : (rest.map fun v => v.category).sum ≤ 8) (hR : rm.cells = 0 ∧ rm.slots = 0 ∧ rm.frames + 1 ≤ R.frames ∧ 8 + (nY + 11) + rm.locals ≤ R.locals) (hd : decode cc pc = .ok (.invokestatic idx, 3)) (kk : gW p l e R s m args below meth c D A nL Q ws' L (pc + 3) (.ref xr :: rest)) : gW p l e R s m args below meth c D A nL Q ws L pc stk :=
  g_callS cx lk hM hlen isC hC hn ha hw hst hcat hR hd kk
theorem g_callSrR {y : MethodName} {cy : ByteArray} {nY n idx : Nat} {ret : Option FieldType} {rm : Room} {As rest : List Value} {wc : va_W} {xr : Nat} (cx : gX p s m args meth c cc nL own D tys A) (lk : slk own idx y cy nY ret n) (hM : gM l D tys y cy nY ret rm As wc (some (.ref xr)) wc) (hlen : As.length = n) (isC : List Nat) (hC : isC.map (fun i => ws[i]?) = wc.map some) (hn : va_nd isC = true) (hst : stk = As.reverse ++ rest) (hcat : (rest.map fun v => v.category).sum ≤ 8) (hR : rm.cells = 0 ∧ rm.slots = 0 ∧ rm.frames + 1 ≤ R.frames ∧ 8 + (nY + 11) + rm.locals ≤ R.locals) (hd : decode cc pc = .ok (.invokestatic idx, 3)) (kk : gW p l e R s m args below meth c D A nL Q ws L (pc + 3) (.ref xr :: rest)) : gW p l e R s m args below meth c D A nL Q ws L pc stk :=
  g_callS cx lk hM hlen isC hC hn rfl (wput_self isC ws wc hC) hst hcat hR hd kk
theorem g_callSv {y : MethodName} {cy : ByteArray} {nY n idx : Nat} {ret : Option FieldType} {rm : Room} {As rest : List Value} {wc wc1 ws' : va_W} (cx : gX p s m args meth c cc nL own D tys A) (lk : slk own idx y cy nY ret n) (hM : gM l D tys y cy nY ret rm As wc none wc1) (hlen : As.length = n) (isC : List Nat) (hC : isC.map (fun i => ws[i]?) = wc.map some) (hn : va_nd isC = true) (ha : wc1.map Prod.fst = wc.map Prod.fst) (hw : wput ws isC wc1 = ws') (hst : stk = As.reverse ++ rest) (hcat : (rest.map fun v => v.category).sum ≤ 8) (hR : rm.cells = 0 ∧ rm.slots = 0 ∧ rm.frames + 1 ≤ R.frames ∧ 8 + (nY + 11) + rm.locals ≤ R.locals) (hd : decode cc pc = .ok (.invokestatic idx, 3)) (kk : gW p l e R s m args below meth c D A nL Q ws' L (pc + 3) rest) : gW p l e R s m args below meth c D A nL Q ws L pc stk :=
  g_callS cx lk hM hlen isC hC hn ha hw hst hcat hR hd kk
theorem g_callSvR {y : MethodName} {cy : ByteArray} {nY n idx : Nat} {ret : Option FieldType} {rm : Room} {As rest : List Value} {wc : va_W} (cx : gX p s m args meth c cc nL own D tys A) (lk : slk own idx y cy nY ret n) (hM : gM l D tys y cy nY ret rm As wc none wc) (hlen : As.length = n) (isC : List Nat) (hC : isC.map (fun i => ws[i]?) = wc.map some) (hn : va_nd isC = true) (hst : stk = As.reverse ++ rest) (hcat : (rest.map fun v => v.category).sum ≤ 8) (hR : rm.cells = 0 ∧ rm.slots = 0 ∧ rm.frames + 1 ≤ R.frames ∧ 8 + (nY + 11) + rm.locals ≤ R.locals) (hd : decode cc pc = .ok (.invokestatic idx, 3)) (kk : gW p l e R s m args below meth c D A nL Q ws L (pc + 3) rest) : gW p l e R s m args below meth c D A nL Q ws L pc stk :=
  g_callS cx lk hM hlen isC hC hn rfl (wput_self isC ws wc hC) hst hcat hR hd kk
theorem g_min (cx : gX p s m args meth c cc nL own D tys A) {idx : Nat} {x y : Int32} (hw : ∀ w ∈ ([.methodLink own idx Lib.Math.min.name, .static Lib.Math.min.name, .initialized "java/lang/Math", .code Lib.Math.min.name Lib.Math.min.code 2 (some .int)] : List Cond), w ∈ TT) (hcat : (stk.map fun v => v.category).sum ≤ 8) (hR : 1 ≤ R.frames ∧ 21 ≤ R.locals) (hd : decode cc pc = .ok (.invokestatic idx, 3))
    (kk : gW p l e R s m args below meth c D A nL Q ws L (pc + 3) (.int (if y < x then y else x) :: stk)) : gW p l e R s m args below meth c D A nL Q ws L pc (.int y :: .int x :: stk) := by
  intro H locs ls hP hD hS hl
  have ok := fun w h => cx.2.2.2.2.1 w (hw w h)
  exact va_mmin cx.1 cx.2.1 (cx.2.2.1.trans hl.1.symm) cx.2.2.2.1 (ok _ (by simp)) (ok _ (by simp)) (ok _ (by simp)) (ok _ (by simp)) hR.1 (by omega) (Nat.zero_le _) (Nat.zero_le _) hd (kk H locs ls hP hD hS hl)
theorem g_max (cx : gX p s m args meth c cc nL own D tys A) {idx : Nat} {x y : Int32} (hw : ∀ w ∈ ([.methodLink own idx Lib.Math.max.name, .static Lib.Math.max.name, .initialized "java/lang/Math", .code Lib.Math.max.name Lib.Math.max.code 2 (some .int)] : List Cond), w ∈ TT) (hcat : (stk.map fun v => v.category).sum ≤ 8) (hR : 1 ≤ R.frames ∧ 21 ≤ R.locals) (hd : decode cc pc = .ok (.invokestatic idx, 3))
    (kk : gW p l e R s m args below meth c D A nL Q ws L (pc + 3) (.int (if x < y then y else x) :: stk)) : gW p l e R s m args below meth c D A nL Q ws L pc (.int y :: .int x :: stk) := by
  intro H locs ls hP hD hS hl
  have ok := fun w h => cx.2.2.2.2.1 w (hw w h)
  exact va_mmax cx.1 cx.2.1 (cx.2.2.1.trans hl.1.symm) cx.2.2.2.1 (ok _ (by simp)) (ok _ (by simp)) (ok _ (by simp)) (ok _ (by simp)) hR.1 (by omega) (Nat.zero_le _) (Nat.zero_le _) hd (kk H locs ls hP hD hS hl)
/-- a switch from 0 on, its places one by one -/
theorem g_swIn (cx : gX p s m args meth c cc nL own D tys A) {dflt hi : Int} {offs : Array Int} {len : Nat} {x : Int32} {off : Int} {tgt : Nat} (n : Nat) (hx : x = nI n) (hn : n < 1000) (hd : decode cc pc = .ok (.tableswitch dflt 0 hi offs, len)) (hh : (n : Int) ≤ hi) (ho : offs[n]? = some off) (ht : (pc : Int) + off = (tgt : Int)) (kk : gW p l e R s m args below meth c D A nL Q ws L tgt stk) : gW p l e R s m args below meth c D A nL Q ws L pc (.int x :: stk) := by
  have h0 : x.toInt = (n : Int) := by rw [hx]; exact nI_toInt (by omega)
  exact fun H locs ls hP hD hS h => lv_tableIn cx.1 cx.2.1 hd (by omega) (by omega) (by rw [h0]; simpa using ho) ht (kk H locs ls hP hD hS h)
theorem g_swOut (cx : gX p s m args meth c cc nL own D tys A) {dflt : Int} {offs : Array Int} {len : Nat} {x : Int32} {tgt : Nat} (hi : Nat) (hx : ∀ n : Nat, n ≤ hi → ¬ x = nI n) (hd : decode cc pc = .ok (.tableswitch dflt 0 hi offs, len)) (ht : (pc : Int) + dflt = (tgt : Int)) (kk : gW p l e R s m args below meth c D A nL Q ws L tgt stk) : gW p l e R s m args below meth c D A nL Q ws L pc (.int x :: stk) := by
  have h0 : x.toInt < 0 ∨ (hi : Int) < x.toInt := by
    rcases Int.lt_or_le x.toInt 0 with h | h
    · exact Or.inl h
    · refine Or.inr (Int.not_le.mp fun h2 => hx x.toInt.toNat (by omega) ?_)
      refine Int32.toInt_inj.mp ?_
      have h3 : x.toInt < 2 ^ 31 := by have := Int32.toInt_lt x; simpa using this
      rw [nI_toInt (by omega)]
      omega
  exact fun H locs ls hP hD hS h => lv_tableOut cx.1 cx.2.1 hd h0 ht (kk H locs ls hP hD hS h)
end GW
theorem k_icm1 : Int32.ofInt (-1) = (-1) := by decide
theorem k_ic0 : Int32.ofInt (0) = 0 := by decide
theorem k_ic1 : Int32.ofInt (1) = 1 := by decide
theorem k_ic2 : Int32.ofInt (2) = 2 := by decide
theorem k_ic3 : Int32.ofInt (3) = 3 := by decide
theorem k_ic4 : Int32.ofInt (4) = 4 := by decide
theorem k_ic5 : Int32.ofInt (5) = 5 := by decide
/-! the states of the objects: what each holds but references -/
abbrev S0 : Type := (Nat → Int32) × Int32 × Int32 × Int32
def s0_picks (s : S0) : (Nat → Int32) := s.1
def u0_picks (s : S0) (v : (Nat → Int32)) : S0 := (v, s.2.1, s.2.2.1, s.2.2.2)
def s0_form (s : S0) : Int32 := s.2.1
def u0_form (s : S0) (v : Int32) : S0 := (s.1, v, s.2.2.1, s.2.2.2)
def s0_dialect (s : S0) : Int32 := s.2.2.1
def u0_dialect (s : S0) (v : Int32) : S0 := (s.1, s.2.1, v, s.2.2.2)
def s0_things (s : S0) : Int32 := s.2.2.2
def u0_things (s : S0) (v : Int32) : S0 := (s.1, s.2.1, s.2.2.1, v)
abbrev S1 : Type := (Nat → Int32) × (Nat → Int32) × Int32
def s1_letters (s : S1) : (Nat → Int32) := s.1
def u1_letters (s : S1) (v : (Nat → Int32)) : S1 := (v, s.2.1, s.2.2)
def s1_lengths (s : S1) : (Nat → Int32) := s.2.1
def u1_lengths (s : S1) (v : (Nat → Int32)) : S1 := (s.1, v, s.2.2)
def s1_size (s : S1) : Int32 := s.2.2
def u1_size (s : S1) (v : Int32) : S1 := (s.1, s.2.1, v)
abbrev S2 : Type := (Nat → Int64) × (Nat → Int32)
def s2_ways (s : S2) : (Nat → Int64) := s.1
def u2_ways (s : S2) (v : (Nat → Int64)) : S2 := (v, s.2)
def s2_possible (s : S2) : (Nat → Int32) := s.2
def u2_possible (s : S2) (v : (Nat → Int32)) : S2 := (s.1, v)
abbrev S3 : Type := (Nat → Int32) × (Nat → Int32)
def s3_costs (s : S3) : (Nat → Int32) := s.1
def u3_costs (s : S3) (v : (Nat → Int32)) : S3 := (v, s.2)
def s3_row (s : S3) : (Nat → Int32) := s.2
def u3_row (s : S3) (v : (Nat → Int32)) : S3 := (s.1, v)
abbrev S4 : Type := (Nat → Int32) × (Nat → Int32) × (Nat → Int32) × Int32 × Int32
def s4_words (s : S4) : (Nat → Int32) := s.1
def u4_words (s : S4) (v : (Nat → Int32)) : S4 := (v, s.2.1, s.2.2.1, s.2.2.2.1, s.2.2.2.2)
def s4_things (s : S4) : (Nat → Int32) := s.2.1
def u4_things (s : S4) (v : (Nat → Int32)) : S4 := (s.1, v, s.2.2.1, s.2.2.2.1, s.2.2.2.2)
def s4_befores (s : S4) : (Nat → Int32) := s.2.2.1
def u4_befores (s : S4) (v : (Nat → Int32)) : S4 := (s.1, s.2.1, v, s.2.2.2.1, s.2.2.2.2)
def s4_most (s : S4) : Int32 := s.2.2.2.1
def u4_most (s : S4) (v : Int32) : S4 := (s.1, s.2.1, s.2.2.1, v, s.2.2.2.2)
def s4_size (s : S4) : Int32 := s.2.2.2.2
def u4_size (s : S4) (v : Int32) : S4 := (s.1, s.2.1, s.2.2.1, s.2.2.2.1, v)
abbrev S7 : Type := (Nat → Int32)
def s7_metres (s : S7) : (Nat → Int32) := s
def u7_metres (_ : S7) (v : (Nat → Int32)) : S7 := v
abbrev S8 : Type := (Nat → Int32) × Int32 × Int32 × Int32 × Int32
def s8_bytes (s : S8) : (Nat → Int32) := s.1
def u8_bytes (s : S8) (v : (Nat → Int32)) : S8 := (v, s.2.1, s.2.2.1, s.2.2.2.1, s.2.2.2.2)
def s8_length (s : S8) : Int32 := s.2.1
def u8_length (s : S8) (v : Int32) : S8 := (s.1, v, s.2.2.1, s.2.2.2.1, s.2.2.2.2)
def s8_start (s : S8) : Int32 := s.2.2.1
def u8_start (s : S8) (v : Int32) : S8 := (s.1, s.2.1, v, s.2.2.2.1, s.2.2.2.2)
def s8_end (s : S8) : Int32 := s.2.2.2.1
def u8_end (s : S8) (v : Int32) : S8 := (s.1, s.2.1, s.2.2.1, v, s.2.2.2.2)
def s8_sort (s : S8) : Int32 := s.2.2.2.2
def u8_sort (s : S8) (v : Int32) : S8 := (s.1, s.2.1, s.2.2.1, s.2.2.2.1, v)
abbrev S9 : Type := (Nat → Int32) × (Nat → Int32) × (Nat → Int32) × Int32 × Int32
def s9_states (s : S9) : (Nat → Int32) := s.1
def u9_states (s : S9) (v : (Nat → Int32)) : S9 := (v, s.2.1, s.2.2.1, s.2.2.2.1, s.2.2.2.2)
def s9_anchors (s : S9) : (Nat → Int32) := s.2.1
def u9_anchors (s : S9) (v : (Nat → Int32)) : S9 := (s.1, v, s.2.2.1, s.2.2.2.1, s.2.2.2.2)
def s9_latest (s : S9) : (Nat → Int32) := s.2.2.1
def u9_latest (s : S9) (v : (Nat → Int32)) : S9 := (s.1, s.2.1, v, s.2.2.2.1, s.2.2.2.2)
def s9_size (s : S9) : Int32 := s.2.2.2.1
def u9_size (s : S9) (v : Int32) : S9 := (s.1, s.2.1, s.2.2.1, v, s.2.2.2.2)
def s9_binding (s : S9) : Int32 := s.2.2.2.2
def u9_binding (s : S9) (v : Int32) : S9 := (s.1, s.2.1, s.2.2.1, s.2.2.2.1, v)
abbrev S10 : Type := (Nat → Int32) × (Nat → Int32) × (Nat → Int32) × Int32
def s10_sounds (s : S10) : (Nat → Int32) := s.1
def u10_sounds (s : S10) (v : (Nat → Int32)) : S10 := (v, s.2.1, s.2.2.1, s.2.2.2)
def s10_meanings (s : S10) : (Nat → Int32) := s.2.1
def u10_meanings (s : S10) (v : (Nat → Int32)) : S10 := (s.1, v, s.2.2.1, s.2.2.2)
def s10_syllables (s : S10) : (Nat → Int32) := s.2.2.1
def u10_syllables (s : S10) (v : (Nat → Int32)) : S10 := (s.1, s.2.1, v, s.2.2.2)
def s10_size (s : S10) : Int32 := s.2.2.2
def u10_size (s : S10) (v : Int32) : S10 := (s.1, s.2.1, s.2.2.1, v)
abbrev S11 : Type := Int32 × Int64
def s11_kept (s : S11) : Int32 := s.1
def u11_kept (s : S11) (v : Int32) : S11 := (v, s.2)
def s11_traced (s : S11) : Int64 := s.2
def u11_traced (s : S11) (v : Int64) : S11 := (s.1, v)
/-- the reference: its numbers and rows by the places of the fields -/
abbrev SM : Type := (Nat → Int32) × (Nat → Nat → Int32) × (Nat → Nat → Int64) × Int64
def mI (s : SM) (k : Nat) : Int32 := s.1 k
def mA (s : SM) (k : Nat) : Nat → Int32 := s.2.1 k
def mJ (s : SM) (k : Nat) : Nat → Int64 := s.2.2.1 k
def mT (s : SM) : Int64 := s.2.2.2
def mIs (s : SM) (k : Nat) (x : Int32) : SM := (fun j => if j = k then x else s.1 j, s.2)
def mAs (s : SM) (k : Nat) (f : Nat → Int32) : SM := (s.1, fun j => if j = k then f else s.2.1 j, s.2.2)
def mJs (s : SM) (k : Nat) (f : Nat → Int64) : SM := (s.1, s.2.1, fun j => if j = k then f else s.2.2.1 j, s.2.2.2)
def mTs (s : SM) (x : Int64) : SM := (s.1, s.2.1, s.2.2.1, x)
end
section
theorem dX6_at_0 : decode cX6_at 0 = .ok (.aload_n 0, 1) := by decide +kernel
theorem dX6_at_1 : decode cX6_at 1 = .ok (.ifnull 19, 3) := by decide +kernel
theorem dX6_at_4 : decode cX6_at 4 = .ok (.iload_n 1, 1) := by decide +kernel
theorem dX6_at_5 : decode cX6_at 5 = .ok (.ifCond .lt 15, 3) := by decide +kernel
theorem dX6_at_8 : decode cX6_at 8 = .ok (.iload_n 1, 1) := by decide +kernel
theorem dX6_at_9 : decode cX6_at 9 = .ok (.aload_n 0, 1) := by decide +kernel
theorem dX6_at_10 : decode cX6_at 10 = .ok (.arraylength, 1) := by decide +kernel
theorem dX6_at_11 : decode cX6_at 11 = .ok (.if_icmp .ge 9, 3) := by decide +kernel
theorem dX6_at_14 : decode cX6_at 14 = .ok (.aload_n 0, 1) := by decide +kernel
theorem dX6_at_15 : decode cX6_at 15 = .ok (.iload_n 1, 1) := by decide +kernel
theorem dX6_at_16 : decode cX6_at 16 = .ok (.iaload, 1) := by decide +kernel
theorem dX6_at_17 : decode cX6_at 17 = .ok (.goto 4, 3) := by decide +kernel
theorem dX6_at_20 : decode cX6_at 20 = .ok (.iconst 0, 1) := by decide +kernel
theorem dX6_at_21 : decode cX6_at 21 = .ok (.ireturn, 1) := by decide +kernel


def F_X6_at (n_a0 : Nat) (f_a0 : (Nat → Int32)) (x1 : Int32) : Option (Int32) := (if x1 < 0 then some (0) else (if (Int32.ofNat n_a0) ≤ x1 then some (0) else (aget n_a0 f_a0 x1).bind fun e_1 => some (e_1)))
def w_X6_at (a0 : Nat) (cB cI cJ cZ : ClassId) (n_a0 : Nat) (f_a0 : (Nat → Int32)) : va_W := [(a0, .inl (cI, n_a0, .inl f_a0))]
abbrev rm_X6_at : Room := { frames := 0, cells := 0, slots := 0, locals := 0 }
set_option maxHeartbeats 4000000 in
set_option maxRecDepth 100000 in
theorem c_X6_at (l : Launch) (D : va_G) (cB cI cJ cZ : ClassId) (a0 : Nat) (n_a0 : Nat) (f_a0 : (Nat → Int32)) (x1 : Int32) (r : Int32) (hf : F_X6_at n_a0 f_a0 x1 = some r) : gM l D (tyL cB cI cJ cZ) yX6_at cX6_at 2 (some .int) rm_X6_at [.ref a0, .int x1] (w_X6_at a0 cB cI cJ cZ n_a0 f_a0) (some (.int r)) (w_X6_at a0 cB cI cJ cZ n_a0 f_a0) := by
  refine met_of (by decide) (Nat.le_of_ble_eq_true rfl) ?_
  intro p e s m args below meth c A cx hr hA
  show gW p l e rm_X6_at s m args below meth c D A 2 _ _ [(0, .ref a0), (1, .int x1)] 0 []
  rw [F_X6_at] at hf
  refine g_aln cx 0 dX6_at_0 rfl ?_
  refine g_nl cx dX6_at_1 ?_
  refine g_iln cx 1 dX6_at_4 rfl ?_
  refine g_if_lt (tgt := 20) cx hf dX6_at_5 rfl (fun hf => ?_) (fun hf => ?_)
  · refine g_ic cx dX6_at_20 k_ic0 ?_
    exact g_iret (ovf := fun (r : Int32) => (some (.int r))) (wf := fun (r : Int32) => (w_X6_at a0 cB cI cJ cZ n_a0 f_a0)) cx hA hr hf rfl rfl dX6_at_21
  · refine g_iln cx 1 dX6_at_8 rfl ?_
    refine g_aln cx 0 dX6_at_9 rfl ?_
    refine g_alen cx 0 1 rfl rfl rfl dX6_at_10 ?_
    refine g_ic_ge (tgt := 20) cx hf dX6_at_11 rfl (fun hf => ?_) (fun hf => ?_)
    · refine g_ic cx dX6_at_20 k_ic0 ?_
      exact g_iret (ovf := fun (r : Int32) => (some (.int r))) (wf := fun (r : Int32) => (w_X6_at a0 cB cI cJ cZ n_a0 f_a0)) cx hA hr hf rfl rfl dX6_at_21
    · refine g_aln cx 0 dX6_at_14 rfl ?_
      refine g_iln cx 1 dX6_at_15 rfl ?_
      refine g_iald cx 0 1 hf rfl rfl dX6_at_16 (fun e_1 hf => ?_)
      refine g_goto (tgt := 21) cx dX6_at_17 rfl ?_
      exact g_iret (ovf := fun (r : Int32) => (some (.int r))) (wf := fun (r : Int32) => (w_X6_at a0 cB cI cJ cZ n_a0 f_a0)) cx hA hr hf rfl rfl dX6_at_21
theorem dX6_set_0 : decode cX6_set 0 = .ok (.aload_n 0, 1) := by decide +kernel
theorem dX6_set_1 : decode cX6_set 1 = .ok (.ifnull 17, 3) := by decide +kernel
theorem dX6_set_4 : decode cX6_set 4 = .ok (.iload_n 1, 1) := by decide +kernel
theorem dX6_set_5 : decode cX6_set 5 = .ok (.ifCond .lt 13, 3) := by decide +kernel
theorem dX6_set_8 : decode cX6_set 8 = .ok (.iload_n 1, 1) := by decide +kernel
theorem dX6_set_9 : decode cX6_set 9 = .ok (.aload_n 0, 1) := by decide +kernel
theorem dX6_set_10 : decode cX6_set 10 = .ok (.arraylength, 1) := by decide +kernel
theorem dX6_set_11 : decode cX6_set 11 = .ok (.if_icmp .ge 7, 3) := by decide +kernel
theorem dX6_set_14 : decode cX6_set 14 = .ok (.aload_n 0, 1) := by decide +kernel
theorem dX6_set_15 : decode cX6_set 15 = .ok (.iload_n 1, 1) := by decide +kernel
theorem dX6_set_16 : decode cX6_set 16 = .ok (.iload_n 2, 1) := by decide +kernel
theorem dX6_set_17 : decode cX6_set 17 = .ok (.iastore, 1) := by decide +kernel
theorem dX6_set_18 : decode cX6_set 18 = .ok (.return_, 1) := by decide +kernel


def F_X6_set (n_a0 : Nat) (f_a0 : (Nat → Int32)) (x1 : Int32) (x2 : Int32) : Option ((Nat → Int32)) := (if x1 < 0 then some (f_a0) else (if (Int32.ofNat n_a0) ≤ x1 then some (f_a0) else (aset n_a0 f_a0 x1 x2).bind fun f_1 => some (f_1)))
def w_X6_set (a0 : Nat) (cB cI cJ cZ : ClassId) (n_a0 : Nat) (f_a0 : (Nat → Int32)) : va_W := [(a0, .inl (cI, n_a0, .inl f_a0))]
abbrev rm_X6_set : Room := { frames := 0, cells := 0, slots := 0, locals := 0 }
set_option maxHeartbeats 4000000 in
set_option maxRecDepth 100000 in
theorem c_X6_set (l : Launch) (D : va_G) (cB cI cJ cZ : ClassId) (a0 : Nat) (n_a0 : Nat) (f_a0 : (Nat → Int32)) (x1 : Int32) (x2 : Int32) (r : (Nat → Int32)) (hf : F_X6_set n_a0 f_a0 x1 x2 = some r) : gM l D (tyL cB cI cJ cZ) yX6_set cX6_set 3 none rm_X6_set [.ref a0, .int x1, .int x2] (w_X6_set a0 cB cI cJ cZ n_a0 f_a0) none (w_X6_set a0 cB cI cJ cZ n_a0 r) := by
  refine met_of (by decide) (Nat.le_of_ble_eq_true rfl) ?_
  intro p e s m args below meth c A cx hr hA
  show gW p l e rm_X6_set s m args below meth c D A 3 _ _ [(0, .ref a0), (1, .int x1), (2, .int x2)] 0 []
  rw [F_X6_set] at hf
  refine g_aln cx 0 dX6_set_0 rfl ?_
  refine g_nl cx dX6_set_1 ?_
  refine g_iln cx 1 dX6_set_4 rfl ?_
  refine g_if_lt (tgt := 18) cx hf dX6_set_5 rfl (fun hf => ?_) (fun hf => ?_)
  · exact g_vret (ovf := fun (r : (Nat → Int32)) => none) (wf := fun (r : (Nat → Int32)) => (w_X6_set a0 cB cI cJ cZ n_a0 r)) cx hA hr hf rfl rfl dX6_set_18
  · refine g_iln cx 1 dX6_set_8 rfl ?_
    refine g_aln cx 0 dX6_set_9 rfl ?_
    refine g_alen cx 0 1 rfl rfl rfl dX6_set_10 ?_
    refine g_ic_ge (tgt := 18) cx hf dX6_set_11 rfl (fun hf => ?_) (fun hf => ?_)
    · exact g_vret (ovf := fun (r : (Nat → Int32)) => none) (wf := fun (r : (Nat → Int32)) => (w_X6_set a0 cB cI cJ cZ n_a0 r)) cx hA hr hf rfl rfl dX6_set_18
    · refine g_aln cx 0 dX6_set_14 rfl ?_
      refine g_iln cx 1 dX6_set_15 rfl ?_
      refine g_iln cx 2 dX6_set_16 rfl ?_
      refine g_iast cx 0 1 (ws' := fun f_1 => (w_X6_set a0 cB cI cJ cZ n_a0 f_1)) hf rfl rfl (fun _ => rfl) dX6_set_17 (fun f_1 hf => ?_)
      exact g_vret (ovf := fun (r : (Nat → Int32)) => none) (wf := fun (r : (Nat → Int32)) => (w_X6_set a0 cB cI cJ cZ n_a0 r)) cx hA hr hf rfl rfl dX6_set_18
theorem dX4_size_0 : decode cX4_size 0 = .ok (.aload_n 0, 1) := by decide +kernel
theorem dX4_size_1 : decode cX4_size 1 = .ok (.getfield 31, 3) := by decide +kernel
theorem dX4_size_4 : decode cX4_size 4 = .ok (.ireturn, 1) := by decide +kernel
theorem q1_88 : Cond.fieldLink RX4 31 "RhymeLaw$Paper" "size" "I" ∈ TT := tq1 88 rfl rfl
theorem fg_RX4_31 {p : Program} {l : Launch} {e : Env} {R : Room} {s : State} {m : MethodId} {args : Array Value} {below : List Frame} {meth : Method} {c : Code} {D : va_G} {tys : List (ClassId × FieldType)} {A : Nat → Prop} {nL : Nat} {Q : State → Prop} {cc : ByteArray} {ws : va_W} {L : List (Nat × Value)} {pc : Nat} {stk : List Value} (cx : gX p s m args meth c cc nL RX4 D tys A) {a : Nat} {fs : List Value} {v : Value} (q0 : Nat) (he : ws[q0]? = some (a, .inr (4, fs))) (hv : fs[4]? = some v) (hd : decode cc pc = .ok (.getfield 31, 3)) (kk : gW p l e R s m args below meth c D A nL Q ws L (pc + 3) (v :: stk)) : gW p l e R s m args below meth c D A nL Q ws L pc (.ref a :: stk) :=
  g_get cx (C := RX4) (T := TX4) (N := 5) inT4 rfl 4 (Nat.le_of_ble_eq_true rfl) q1_88 rfl q0 he hv hd kk
def F_X4_size (s_o : S4) : Option (Int32) := some ((s4_size s_o))
def w_X4_size (o : Nat → Nat) (cB cI cJ cZ : ClassId) (s_o : S4) : va_W := [(o 0, .inr (4, [.ref (o 1), .ref (o 2), .ref (o 3), .int (s4_most s_o), .int (s4_size s_o)])), (o 1, .inl (cI, 8, .inl (s4_words s_o))), (o 2, .inl (cI, 8, .inl (s4_things s_o))), (o 3, .inl (cI, 8, .inl (s4_befores s_o)))]
abbrev rm_X4_size : Room := { frames := 0, cells := 0, slots := 0, locals := 0 }
set_option maxHeartbeats 4000000 in
set_option maxRecDepth 100000 in
theorem c_X4_size (l : Launch) (D : va_G) (cB cI cJ cZ : ClassId) (o : Nat → Nat) (s_o : S4) (r : Int32) (hf : F_X4_size s_o = some r) : gM l D (tyL cB cI cJ cZ) yX4_size cX4_size 1 (some .int) rm_X4_size [.ref (o 0)] (w_X4_size o cB cI cJ cZ s_o) (some (.int r)) (w_X4_size o cB cI cJ cZ s_o) := by
  refine met_of (by decide) (Nat.le_of_ble_eq_true rfl) ?_
  intro p e s m args below meth c A cx hr hA
  show gW p l e rm_X4_size s m args below meth c D A 1 _ _ [(0, .ref (o 0))] 0 []
  rw [F_X4_size] at hf
  refine g_aln cx 0 dX4_size_0 rfl ?_
  refine fg_RX4_31 cx 0 rfl rfl dX4_size_1 ?_
  exact g_iret (ovf := fun (r : Int32) => (some (.int r))) (wf := fun (r : Int32) => (w_X4_size o cB cI cJ cZ s_o)) cx hA hr hf rfl rfl dX4_size_4
theorem dX4_isFull_0 : decode cX4_isFull 0 = .ok (.aload_n 0, 1) := by decide +kernel
theorem dX4_isFull_1 : decode cX4_isFull 1 = .ok (.getfield 31, 3) := by decide +kernel
theorem dX4_isFull_4 : decode cX4_isFull 4 = .ok (.aload_n 0, 1) := by decide +kernel
theorem dX4_isFull_5 : decode cX4_isFull 5 = .ok (.getfield 27, 3) := by decide +kernel
theorem dX4_isFull_8 : decode cX4_isFull 8 = .ok (.if_icmp .lt 7, 3) := by decide +kernel
theorem dX4_isFull_11 : decode cX4_isFull 11 = .ok (.iconst 1, 1) := by decide +kernel
theorem dX4_isFull_12 : decode cX4_isFull 12 = .ok (.goto 4, 3) := by decide +kernel
theorem dX4_isFull_15 : decode cX4_isFull 15 = .ok (.iconst 0, 1) := by decide +kernel
theorem dX4_isFull_16 : decode cX4_isFull 16 = .ok (.ireturn, 1) := by decide +kernel
theorem q1_87 : Cond.fieldLink RX4 27 "RhymeLaw$Paper" "most" "I" ∈ TT := tq1 87 rfl rfl
theorem fg_RX4_27 {p : Program} {l : Launch} {e : Env} {R : Room} {s : State} {m : MethodId} {args : Array Value} {below : List Frame} {meth : Method} {c : Code} {D : va_G} {tys : List (ClassId × FieldType)} {A : Nat → Prop} {nL : Nat} {Q : State → Prop} {cc : ByteArray} {ws : va_W} {L : List (Nat × Value)} {pc : Nat} {stk : List Value} (cx : gX p s m args meth c cc nL RX4 D tys A) {a : Nat} {fs : List Value} {v : Value} (q0 : Nat) (he : ws[q0]? = some (a, .inr (4, fs))) (hv : fs[3]? = some v) (hd : decode cc pc = .ok (.getfield 27, 3)) (kk : gW p l e R s m args below meth c D A nL Q ws L (pc + 3) (v :: stk)) : gW p l e R s m args below meth c D A nL Q ws L pc (.ref a :: stk) :=
  g_get cx (C := RX4) (T := TX4) (N := 5) inT4 rfl 3 (Nat.le_of_ble_eq_true rfl) q1_87 rfl q0 he hv hd kk
def F_X4_isFull (s_o : S4) : Option (Int32) := (if (s4_size s_o) < (s4_most s_o) then some (0) else some (1))
def w_X4_isFull (o : Nat → Nat) (cB cI cJ cZ : ClassId) (s_o : S4) : va_W := [(o 0, .inr (4, [.ref (o 1), .ref (o 2), .ref (o 3), .int (s4_most s_o), .int (s4_size s_o)])), (o 1, .inl (cI, 8, .inl (s4_words s_o))), (o 2, .inl (cI, 8, .inl (s4_things s_o))), (o 3, .inl (cI, 8, .inl (s4_befores s_o)))]
abbrev rm_X4_isFull : Room := { frames := 0, cells := 0, slots := 0, locals := 0 }
set_option maxHeartbeats 4000000 in
set_option maxRecDepth 100000 in
theorem c_X4_isFull (l : Launch) (D : va_G) (cB cI cJ cZ : ClassId) (o : Nat → Nat) (s_o : S4) (r : Int32) (hf : F_X4_isFull s_o = some r) : gM l D (tyL cB cI cJ cZ) yX4_isFull cX4_isFull 1 (some .boolean) rm_X4_isFull [.ref (o 0)] (w_X4_isFull o cB cI cJ cZ s_o) (some (.int r)) (w_X4_isFull o cB cI cJ cZ s_o) := by
  refine met_of (by decide) (Nat.le_of_ble_eq_true rfl) ?_
  intro p e s m args below meth c A cx hr hA
  show gW p l e rm_X4_isFull s m args below meth c D A 1 _ _ [(0, .ref (o 0))] 0 []
  rw [F_X4_isFull] at hf
  refine g_aln cx 0 dX4_isFull_0 rfl ?_
  refine fg_RX4_31 cx 0 rfl rfl dX4_isFull_1 ?_
  refine g_aln cx 0 dX4_isFull_4 rfl ?_
  refine fg_RX4_27 cx 0 rfl rfl dX4_isFull_5 ?_
  refine g_ic_lt (tgt := 15) cx hf dX4_isFull_8 rfl (fun hf => ?_) (fun hf => ?_)
  · refine g_ic cx dX4_isFull_15 k_ic0 ?_
    exact g_zret (ovf := fun (r : Int32) => (some (.int r))) (wf := fun (r : Int32) => (w_X4_isFull o cB cI cJ cZ s_o)) cx hA hr rfl hf rfl rfl dX4_isFull_16
  · refine g_ic cx dX4_isFull_11 k_ic1 ?_
    refine g_goto (tgt := 16) cx dX4_isFull_12 rfl ?_
    exact g_zret (ovf := fun (r : Int32) => (some (.int r))) (wf := fun (r : Int32) => (w_X4_isFull o cB cI cJ cZ s_o)) cx hA hr rfl hf rfl rfl dX4_isFull_16
theorem dX4_has_0 : decode cX4_has 0 = .ok (.iload_n 1, 1) := by decide +kernel
theorem dX4_has_1 : decode cX4_has 1 = .ok (.ifCond .lt 15, 3) := by decide +kernel
theorem dX4_has_4 : decode cX4_has 4 = .ok (.iload_n 1, 1) := by decide +kernel
theorem dX4_has_5 : decode cX4_has 5 = .ok (.aload_n 0, 1) := by decide +kernel
theorem dX4_has_6 : decode cX4_has 6 = .ok (.getfield 31, 3) := by decide +kernel
theorem dX4_has_9 : decode cX4_has 9 = .ok (.if_icmp .ge 7, 3) := by decide +kernel
theorem dX4_has_12 : decode cX4_has 12 = .ok (.iconst 1, 1) := by decide +kernel
theorem dX4_has_13 : decode cX4_has 13 = .ok (.goto 4, 3) := by decide +kernel
theorem dX4_has_16 : decode cX4_has 16 = .ok (.iconst 0, 1) := by decide +kernel
theorem dX4_has_17 : decode cX4_has 17 = .ok (.ireturn, 1) := by decide +kernel


def F_X4_has (s_o : S4) (x1 : Int32) : Option (Int32) := (if x1 < 0 then some (0) else (if (s4_size s_o) ≤ x1 then some (0) else some (1)))
def w_X4_has (o : Nat → Nat) (cB cI cJ cZ : ClassId) (s_o : S4) : va_W := [(o 0, .inr (4, [.ref (o 1), .ref (o 2), .ref (o 3), .int (s4_most s_o), .int (s4_size s_o)])), (o 1, .inl (cI, 8, .inl (s4_words s_o))), (o 2, .inl (cI, 8, .inl (s4_things s_o))), (o 3, .inl (cI, 8, .inl (s4_befores s_o)))]
abbrev rm_X4_has : Room := { frames := 0, cells := 0, slots := 0, locals := 0 }
set_option maxHeartbeats 4000000 in
set_option maxRecDepth 100000 in
theorem c_X4_has (l : Launch) (D : va_G) (cB cI cJ cZ : ClassId) (o : Nat → Nat) (s_o : S4) (x1 : Int32) (r : Int32) (hf : F_X4_has s_o x1 = some r) : gM l D (tyL cB cI cJ cZ) yX4_has cX4_has 2 (some .boolean) rm_X4_has [.ref (o 0), .int x1] (w_X4_has o cB cI cJ cZ s_o) (some (.int r)) (w_X4_has o cB cI cJ cZ s_o) := by
  refine met_of (by decide) (Nat.le_of_ble_eq_true rfl) ?_
  intro p e s m args below meth c A cx hr hA
  show gW p l e rm_X4_has s m args below meth c D A 2 _ _ [(0, .ref (o 0)), (1, .int x1)] 0 []
  rw [F_X4_has] at hf
  refine g_iln cx 1 dX4_has_0 rfl ?_
  refine g_if_lt (tgt := 16) cx hf dX4_has_1 rfl (fun hf => ?_) (fun hf => ?_)
  · refine g_ic cx dX4_has_16 k_ic0 ?_
    exact g_zret (ovf := fun (r : Int32) => (some (.int r))) (wf := fun (r : Int32) => (w_X4_has o cB cI cJ cZ s_o)) cx hA hr rfl hf rfl rfl dX4_has_17
  · refine g_iln cx 1 dX4_has_4 rfl ?_
    refine g_aln cx 0 dX4_has_5 rfl ?_
    refine fg_RX4_31 cx 0 rfl rfl dX4_has_6 ?_
    refine g_ic_ge (tgt := 16) cx hf dX4_has_9 rfl (fun hf => ?_) (fun hf => ?_)
    · refine g_ic cx dX4_has_16 k_ic0 ?_
      exact g_zret (ovf := fun (r : Int32) => (some (.int r))) (wf := fun (r : Int32) => (w_X4_has o cB cI cJ cZ s_o)) cx hA hr rfl hf rfl rfl dX4_has_17
    · refine g_ic cx dX4_has_12 k_ic1 ?_
      refine g_goto (tgt := 17) cx dX4_has_13 rfl ?_
      exact g_zret (ovf := fun (r : Int32) => (some (.int r))) (wf := fun (r : Int32) => (w_X4_has o cB cI cJ cZ s_o)) cx hA hr rfl hf rfl rfl dX4_has_17
theorem dX4_wipe_0 : decode cX4_wipe 0 = .ok (.aload_n 0, 1) := by decide +kernel
theorem dX4_wipe_1 : decode cX4_wipe 1 = .ok (.iconst 0, 1) := by decide +kernel
theorem dX4_wipe_2 : decode cX4_wipe 2 = .ok (.putfield 31, 3) := by decide +kernel
theorem dX4_wipe_5 : decode cX4_wipe 5 = .ok (.return_, 1) := by decide +kernel

theorem fp_RX4_31 {p : Program} {l : Launch} {e : Env} {R : Room} {s : State} {m : MethodId} {args : Array Value} {below : List Frame} {meth : Method} {c : Code} {D : va_G} {tys : List (ClassId × FieldType)} {A : Nat → Prop} {nL : Nat} {Q : State → Prop} {cc : ByteArray} {ws : va_W} {L : List (Nat × Value)} {pc : Nat} {stk : List Value} (cx : gX p s m args meth c cc nL RX4 D tys A) {a : Nat} {fs : List Value} {x : Int32} (q0 : Nat) (he : ws[q0]? = some (a, .inr (4, fs))) (hl : 4 < fs.length) {ws' : va_W} (hw : ws.set q0 (a, .inr (4, fs.set 4 (.int x))) = ws') (hd : decode cc pc = .ok (.putfield 31, 3)) (kk : gW p l e R s m args below meth c D A nL Q ws' L (pc + 3) stk) : gW p l e R s m args below meth c D A nL Q ws L pc (.int x :: .ref a :: stk) :=
  g_put cx (C := RX4) (T := TX4) (N := 5) (ty0 := tyX4) (ty := .int) inT4 tyX4_ok nmX4 rfl 4 (Nat.le_of_ble_eq_true rfl) q1_88 rfl rfl rfl rfl rfl q0 he hl hw hd kk
def F_X4_wipe (s_o : S4) : Option (S4) := nm (u4_size s_o 0) fun s_o_1 => some (s_o_1)
def w_X4_wipe (o : Nat → Nat) (cB cI cJ cZ : ClassId) (s_o : S4) : va_W := [(o 0, .inr (4, [.ref (o 1), .ref (o 2), .ref (o 3), .int (s4_most s_o), .int (s4_size s_o)])), (o 1, .inl (cI, 8, .inl (s4_words s_o))), (o 2, .inl (cI, 8, .inl (s4_things s_o))), (o 3, .inl (cI, 8, .inl (s4_befores s_o)))]
abbrev rm_X4_wipe : Room := { frames := 0, cells := 0, slots := 0, locals := 0 }
set_option maxHeartbeats 4000000 in
set_option maxRecDepth 100000 in
theorem c_X4_wipe (l : Launch) (D : va_G) (cB cI cJ cZ : ClassId) (o : Nat → Nat) (s_o : S4) (r : S4) (hf : F_X4_wipe s_o = some r) : gM l D (tyL cB cI cJ cZ) yX4_wipe cX4_wipe 1 none rm_X4_wipe [.ref (o 0)] (w_X4_wipe o cB cI cJ cZ s_o) none (w_X4_wipe o cB cI cJ cZ r) := by
  refine met_of (by decide) (Nat.le_of_ble_eq_true rfl) ?_
  intro p e s m args below meth c A cx hr hA
  show gW p l e rm_X4_wipe s m args below meth c D A 1 _ _ [(0, .ref (o 0))] 0 []
  rw [F_X4_wipe] at hf
  refine g_aln cx 0 dX4_wipe_0 rfl ?_
  refine g_ic cx dX4_wipe_1 k_ic0 ?_
  refine fp_RX4_31 cx 0 rfl (Nat.le_of_ble_eq_true rfl) (ws' := (w_X4_wipe o cB cI cJ cZ (u4_size s_o 0))) rfl dX4_wipe_2 ?_
  refine g_nm (w := fun s_o_1 => (w_X4_wipe o cB cI cJ cZ s_o_1)) hf (fun s_o_1 hf => ?_)
  exact g_vret (ovf := fun (r : S4) => none) (wf := fun (r : S4) => (w_X4_wipe o cB cI cJ cZ r)) cx hA hr hf rfl rfl dX4_wipe_5
theorem dX4_cut_0 : decode cX4_cut 0 = .ok (.aload_n 0, 1) := by decide +kernel
theorem dX4_cut_1 : decode cX4_cut 1 = .ok (.iconst 0, 1) := by decide +kernel
theorem dX4_cut_2 : decode cX4_cut 2 = .ok (.aload_n 0, 1) := by decide +kernel
theorem dX4_cut_3 : decode cX4_cut 3 = .ok (.getfield 31, 3) := by decide +kernel
theorem dX4_cut_6 : decode cX4_cut 6 = .ok (.iload_n 1, 1) := by decide +kernel
theorem dX4_cut_7 : decode cX4_cut 7 = .ok (.invokestatic 21, 3) := by decide +kernel
theorem dX4_cut_10 : decode cX4_cut 10 = .ok (.invokestatic 34, 3) := by decide +kernel
theorem dX4_cut_13 : decode cX4_cut 13 = .ok (.putfield 31, 3) := by decide +kernel
theorem dX4_cut_16 : decode cX4_cut 16 = .ok (.return_, 1) := by decide +kernel
theorem q1_5 : Cond.initialized RJ9 ∈ TT := tq1 5 rfl rfl
theorem q1_81 : Cond.methodLink RX4 21 Lib.Math.min.name ∈ TT := tq1 81 rfl rfl
theorem q1_82 : Cond.static Lib.Math.min.name ∈ TT := tq1 82 rfl rfl
theorem q1_83 : Cond.code Lib.Math.min.name Lib.Math.min.code 2 (some .int) ∈ TT := tq1 83 rfl rfl
theorem q4_65 : Cond.methodLink RX4 34 Lib.Math.max.name ∈ TT := tq4 65 rfl rfl
theorem q4_66 : Cond.static Lib.Math.max.name ∈ TT := tq4 66 rfl rfl
theorem q4_67 : Cond.code Lib.Math.max.name Lib.Math.max.code 2 (some .int) ∈ TT := tq4 67 rfl rfl
theorem mr_RX4_34 : ∀ w ∈ ([.methodLink RX4 34 Lib.Math.max.name, .static Lib.Math.max.name, .initialized "java/lang/Math", .code Lib.Math.max.name Lib.Math.max.code 2 (some .int)] : List Cond), w ∈ TT := List.forall_mem_cons.mpr ⟨q4_65, List.forall_mem_cons.mpr ⟨q4_66, List.forall_mem_cons.mpr ⟨q1_5, List.forall_mem_cons.mpr ⟨q4_67, fun _ h => absurd h List.not_mem_nil⟩⟩⟩⟩
theorem mr_RX4_21 : ∀ w ∈ ([.methodLink RX4 21 Lib.Math.min.name, .static Lib.Math.min.name, .initialized "java/lang/Math", .code Lib.Math.min.name Lib.Math.min.code 2 (some .int)] : List Cond), w ∈ TT := List.forall_mem_cons.mpr ⟨q1_81, List.forall_mem_cons.mpr ⟨q1_82, List.forall_mem_cons.mpr ⟨q1_5, List.forall_mem_cons.mpr ⟨q1_83, fun _ h => absurd h List.not_mem_nil⟩⟩⟩⟩
def F_X4_cut (s_o : S4) (x1 : Int32) : Option (S4) := nm (u4_size s_o (if 0 < (if x1 < (s4_size s_o) then x1 else (s4_size s_o)) then (if x1 < (s4_size s_o) then x1 else (s4_size s_o)) else 0)) fun s_o_1 => some (s_o_1)
def w_X4_cut (o : Nat → Nat) (cB cI cJ cZ : ClassId) (s_o : S4) : va_W := [(o 0, .inr (4, [.ref (o 1), .ref (o 2), .ref (o 3), .int (s4_most s_o), .int (s4_size s_o)])), (o 1, .inl (cI, 8, .inl (s4_words s_o))), (o 2, .inl (cI, 8, .inl (s4_things s_o))), (o 3, .inl (cI, 8, .inl (s4_befores s_o)))]
abbrev rm_X4_cut : Room := { frames := 1, cells := 0, slots := 0, locals := 21 }
set_option maxHeartbeats 4000000 in
set_option maxRecDepth 100000 in
theorem c_X4_cut (l : Launch) (D : va_G) (cB cI cJ cZ : ClassId) (o : Nat → Nat) (s_o : S4) (x1 : Int32) (r : S4) (hf : F_X4_cut s_o x1 = some r) : gM l D (tyL cB cI cJ cZ) yX4_cut cX4_cut 2 none rm_X4_cut [.ref (o 0), .int x1] (w_X4_cut o cB cI cJ cZ s_o) none (w_X4_cut o cB cI cJ cZ r) := by
  refine met_of (by decide) (Nat.le_of_ble_eq_true rfl) ?_
  intro p e s m args below meth c A cx hr hA
  show gW p l e rm_X4_cut s m args below meth c D A 2 _ _ [(0, .ref (o 0)), (1, .int x1)] 0 []
  rw [F_X4_cut] at hf
  refine g_aln cx 0 dX4_cut_0 rfl ?_
  refine g_ic cx dX4_cut_1 k_ic0 ?_
  refine g_aln cx 0 dX4_cut_2 rfl ?_
  refine fg_RX4_31 cx 0 rfl rfl dX4_cut_3 ?_
  refine g_iln cx 1 dX4_cut_6 rfl ?_
  refine g_min cx mr_RX4_21 (Nat.le_of_ble_eq_true rfl) ⟨Nat.le_of_ble_eq_true rfl, Nat.le_of_ble_eq_true rfl⟩ dX4_cut_7 ?_
  refine g_max cx mr_RX4_34 (Nat.le_of_ble_eq_true rfl) ⟨Nat.le_of_ble_eq_true rfl, Nat.le_of_ble_eq_true rfl⟩ dX4_cut_10 ?_
  refine fp_RX4_31 cx 0 rfl (Nat.le_of_ble_eq_true rfl) (ws' := (w_X4_cut o cB cI cJ cZ (u4_size s_o (if 0 < (if x1 < (s4_size s_o) then x1 else (s4_size s_o)) then (if x1 < (s4_size s_o) then x1 else (s4_size s_o)) else 0)))) rfl dX4_cut_13 ?_
  refine g_nm (w := fun s_o_1 => (w_X4_cut o cB cI cJ cZ s_o_1)) hf (fun s_o_1 hf => ?_)
  exact g_vret (ovf := fun (r : S4) => none) (wf := fun (r : S4) => (w_X4_cut o cB cI cJ cZ r)) cx hA hr hf rfl rfl dX4_cut_16
theorem dX4_wordAt_0 : decode cX4_wordAt 0 = .ok (.aload_n 0, 1) := by decide +kernel
theorem dX4_wordAt_1 : decode cX4_wordAt 1 = .ok (.getfield 9, 3) := by decide +kernel
theorem dX4_wordAt_4 : decode cX4_wordAt 4 = .ok (.iload_n 1, 1) := by decide +kernel
theorem dX4_wordAt_5 : decode cX4_wordAt 5 = .ok (.invokestatic 37, 3) := by decide +kernel
theorem dX4_wordAt_8 : decode cX4_wordAt 8 = .ok (.ireturn, 1) := by decide +kernel
theorem q1_19 : Cond.initialized RX6 ∈ TT := tq1 19 rfl rfl
theorem q1_84 : Cond.fieldLink RX4 9 "RhymeLaw$Paper" "words" "[I" ∈ TT := tq1 84 rfl rfl
theorem q2_207 : Cond.static yX6_at ∈ TT := tq2 207 rfl rfl
theorem q2_208 : Cond.code yX6_at cX6_at 2 (some .int) ∈ TT := tq2 208 rfl rfl
theorem q3_3 : Cond.methodLink RX4 37 yX6_at ∈ TT := tq3 3 rfl rfl
theorem fg_RX4_9 {p : Program} {l : Launch} {e : Env} {R : Room} {s : State} {m : MethodId} {args : Array Value} {below : List Frame} {meth : Method} {c : Code} {D : va_G} {tys : List (ClassId × FieldType)} {A : Nat → Prop} {nL : Nat} {Q : State → Prop} {cc : ByteArray} {ws : va_W} {L : List (Nat × Value)} {pc : Nat} {stk : List Value} (cx : gX p s m args meth c cc nL RX4 D tys A) {a : Nat} {fs : List Value} {v : Value} (q0 : Nat) (he : ws[q0]? = some (a, .inr (4, fs))) (hv : fs[0]? = some v) (hd : decode cc pc = .ok (.getfield 9, 3)) (kk : gW p l e R s m args below meth c D A nL Q ws L (pc + 3) (v :: stk)) : gW p l e R s m args below meth c D A nL Q ws L pc (.ref a :: stk) :=
  g_get cx (C := RX4) (T := TX4) (N := 5) inT4 rfl 0 (Nat.le_of_ble_eq_true rfl) q1_84 rfl q0 he hv hd kk
theorem lk_RX4_37 : slk RX4 37 yX6_at cX6_at 2 (some .int) 2 := ⟨List.forall_mem_cons.mpr ⟨q3_3, List.forall_mem_cons.mpr ⟨q2_207, List.forall_mem_cons.mpr ⟨q1_19, fun _ h => absurd h List.not_mem_nil⟩⟩⟩, q2_208, by decide, by decide, by decide +kernel⟩
def F_X4_wordAt (s_o : S4) (x1 : Int32) : Option (Int32) := (F_X6_at 8 (s4_words s_o) x1).bind fun q_1 => some (q_1)
def w_X4_wordAt (o : Nat → Nat) (cB cI cJ cZ : ClassId) (s_o : S4) : va_W := [(o 0, .inr (4, [.ref (o 1), .ref (o 2), .ref (o 3), .int (s4_most s_o), .int (s4_size s_o)])), (o 1, .inl (cI, 8, .inl (s4_words s_o))), (o 2, .inl (cI, 8, .inl (s4_things s_o))), (o 3, .inl (cI, 8, .inl (s4_befores s_o)))]
abbrev rm_X4_wordAt : Room := { frames := 1, cells := 0, slots := 0, locals := 21 }
set_option maxHeartbeats 4000000 in
set_option maxRecDepth 100000 in
theorem c_X4_wordAt (l : Launch) (D : va_G) (cB cI cJ cZ : ClassId) (o : Nat → Nat) (s_o : S4) (x1 : Int32) (r : Int32) (hf : F_X4_wordAt s_o x1 = some r) : gM l D (tyL cB cI cJ cZ) yX4_wordAt cX4_wordAt 2 (some .int) rm_X4_wordAt [.ref (o 0), .int x1] (w_X4_wordAt o cB cI cJ cZ s_o) (some (.int r)) (w_X4_wordAt o cB cI cJ cZ s_o) := by
  refine met_of (by decide) (Nat.le_of_ble_eq_true rfl) ?_
  intro p e s m args below meth c A cx hr hA
  show gW p l e rm_X4_wordAt s m args below meth c D A 2 _ _ [(0, .ref (o 0)), (1, .int x1)] 0 []
  rw [F_X4_wordAt] at hf
  refine g_aln cx 0 dX4_wordAt_0 rfl ?_
  refine fg_RX4_9 cx 0 rfl rfl dX4_wordAt_1 ?_
  refine g_iln cx 1 dX4_wordAt_4 rfl ?_
  refine ob hf (fun q_1 hq_1 hf => ?_)
  refine g_callSiR cx lk_RX4_37 (c_X6_at l D cB cI cJ cZ (o 1) 8 (s4_words s_o) x1 q_1 hq_1) rfl [1] rfl rfl rfl (Nat.le_of_ble_eq_true rfl) ⟨rfl, rfl, Nat.le_of_ble_eq_true rfl, Nat.le_of_ble_eq_true rfl⟩ dX4_wordAt_5 ?_
  exact g_iret (ovf := fun (r : Int32) => (some (.int r))) (wf := fun (r : Int32) => (w_X4_wordAt o cB cI cJ cZ s_o)) cx hA hr hf rfl rfl dX4_wordAt_8
theorem dX4_thingAt_0 : decode cX4_thingAt 0 = .ok (.aload_n 0, 1) := by decide +kernel
theorem dX4_thingAt_1 : decode cX4_thingAt 1 = .ok (.getfield 15, 3) := by decide +kernel
theorem dX4_thingAt_4 : decode cX4_thingAt 4 = .ok (.iload_n 1, 1) := by decide +kernel
theorem dX4_thingAt_5 : decode cX4_thingAt 5 = .ok (.invokestatic 37, 3) := by decide +kernel
theorem dX4_thingAt_8 : decode cX4_thingAt 8 = .ok (.ireturn, 1) := by decide +kernel
theorem q1_85 : Cond.fieldLink RX4 15 "RhymeLaw$Paper" "things" "[I" ∈ TT := tq1 85 rfl rfl
theorem fg_RX4_15 {p : Program} {l : Launch} {e : Env} {R : Room} {s : State} {m : MethodId} {args : Array Value} {below : List Frame} {meth : Method} {c : Code} {D : va_G} {tys : List (ClassId × FieldType)} {A : Nat → Prop} {nL : Nat} {Q : State → Prop} {cc : ByteArray} {ws : va_W} {L : List (Nat × Value)} {pc : Nat} {stk : List Value} (cx : gX p s m args meth c cc nL RX4 D tys A) {a : Nat} {fs : List Value} {v : Value} (q0 : Nat) (he : ws[q0]? = some (a, .inr (4, fs))) (hv : fs[1]? = some v) (hd : decode cc pc = .ok (.getfield 15, 3)) (kk : gW p l e R s m args below meth c D A nL Q ws L (pc + 3) (v :: stk)) : gW p l e R s m args below meth c D A nL Q ws L pc (.ref a :: stk) :=
  g_get cx (C := RX4) (T := TX4) (N := 5) inT4 rfl 1 (Nat.le_of_ble_eq_true rfl) q1_85 rfl q0 he hv hd kk
def F_X4_thingAt (s_o : S4) (x1 : Int32) : Option (Int32) := (F_X6_at 8 (s4_things s_o) x1).bind fun q_1 => some (q_1)
def w_X4_thingAt (o : Nat → Nat) (cB cI cJ cZ : ClassId) (s_o : S4) : va_W := [(o 0, .inr (4, [.ref (o 1), .ref (o 2), .ref (o 3), .int (s4_most s_o), .int (s4_size s_o)])), (o 1, .inl (cI, 8, .inl (s4_words s_o))), (o 2, .inl (cI, 8, .inl (s4_things s_o))), (o 3, .inl (cI, 8, .inl (s4_befores s_o)))]
abbrev rm_X4_thingAt : Room := { frames := 1, cells := 0, slots := 0, locals := 21 }
set_option maxHeartbeats 4000000 in
set_option maxRecDepth 100000 in
theorem c_X4_thingAt (l : Launch) (D : va_G) (cB cI cJ cZ : ClassId) (o : Nat → Nat) (s_o : S4) (x1 : Int32) (r : Int32) (hf : F_X4_thingAt s_o x1 = some r) : gM l D (tyL cB cI cJ cZ) yX4_thingAt cX4_thingAt 2 (some .int) rm_X4_thingAt [.ref (o 0), .int x1] (w_X4_thingAt o cB cI cJ cZ s_o) (some (.int r)) (w_X4_thingAt o cB cI cJ cZ s_o) := by
  refine met_of (by decide) (Nat.le_of_ble_eq_true rfl) ?_
  intro p e s m args below meth c A cx hr hA
  show gW p l e rm_X4_thingAt s m args below meth c D A 2 _ _ [(0, .ref (o 0)), (1, .int x1)] 0 []
  rw [F_X4_thingAt] at hf
  refine g_aln cx 0 dX4_thingAt_0 rfl ?_
  refine fg_RX4_15 cx 0 rfl rfl dX4_thingAt_1 ?_
  refine g_iln cx 1 dX4_thingAt_4 rfl ?_
  refine ob hf (fun q_1 hq_1 hf => ?_)
  refine g_callSiR cx lk_RX4_37 (c_X6_at l D cB cI cJ cZ (o 2) 8 (s4_things s_o) x1 q_1 hq_1) rfl [2] rfl rfl rfl (Nat.le_of_ble_eq_true rfl) ⟨rfl, rfl, Nat.le_of_ble_eq_true rfl, Nat.le_of_ble_eq_true rfl⟩ dX4_thingAt_5 ?_
  exact g_iret (ovf := fun (r : Int32) => (some (.int r))) (wf := fun (r : Int32) => (w_X4_thingAt o cB cI cJ cZ s_o)) cx hA hr hf rfl rfl dX4_thingAt_8
theorem dX4_beforeAt_0 : decode cX4_beforeAt 0 = .ok (.aload_n 0, 1) := by decide +kernel
theorem dX4_beforeAt_1 : decode cX4_beforeAt 1 = .ok (.getfield 18, 3) := by decide +kernel
theorem dX4_beforeAt_4 : decode cX4_beforeAt 4 = .ok (.iload_n 1, 1) := by decide +kernel
theorem dX4_beforeAt_5 : decode cX4_beforeAt 5 = .ok (.invokestatic 37, 3) := by decide +kernel
theorem dX4_beforeAt_8 : decode cX4_beforeAt 8 = .ok (.ireturn, 1) := by decide +kernel
theorem q1_86 : Cond.fieldLink RX4 18 "RhymeLaw$Paper" "befores" "[I" ∈ TT := tq1 86 rfl rfl
theorem fg_RX4_18 {p : Program} {l : Launch} {e : Env} {R : Room} {s : State} {m : MethodId} {args : Array Value} {below : List Frame} {meth : Method} {c : Code} {D : va_G} {tys : List (ClassId × FieldType)} {A : Nat → Prop} {nL : Nat} {Q : State → Prop} {cc : ByteArray} {ws : va_W} {L : List (Nat × Value)} {pc : Nat} {stk : List Value} (cx : gX p s m args meth c cc nL RX4 D tys A) {a : Nat} {fs : List Value} {v : Value} (q0 : Nat) (he : ws[q0]? = some (a, .inr (4, fs))) (hv : fs[2]? = some v) (hd : decode cc pc = .ok (.getfield 18, 3)) (kk : gW p l e R s m args below meth c D A nL Q ws L (pc + 3) (v :: stk)) : gW p l e R s m args below meth c D A nL Q ws L pc (.ref a :: stk) :=
  g_get cx (C := RX4) (T := TX4) (N := 5) inT4 rfl 2 (Nat.le_of_ble_eq_true rfl) q1_86 rfl q0 he hv hd kk
def F_X4_beforeAt (s_o : S4) (x1 : Int32) : Option (Int32) := (F_X6_at 8 (s4_befores s_o) x1).bind fun q_1 => some (q_1)
def w_X4_beforeAt (o : Nat → Nat) (cB cI cJ cZ : ClassId) (s_o : S4) : va_W := [(o 0, .inr (4, [.ref (o 1), .ref (o 2), .ref (o 3), .int (s4_most s_o), .int (s4_size s_o)])), (o 1, .inl (cI, 8, .inl (s4_words s_o))), (o 2, .inl (cI, 8, .inl (s4_things s_o))), (o 3, .inl (cI, 8, .inl (s4_befores s_o)))]
abbrev rm_X4_beforeAt : Room := { frames := 1, cells := 0, slots := 0, locals := 21 }
set_option maxHeartbeats 4000000 in
set_option maxRecDepth 100000 in
theorem c_X4_beforeAt (l : Launch) (D : va_G) (cB cI cJ cZ : ClassId) (o : Nat → Nat) (s_o : S4) (x1 : Int32) (r : Int32) (hf : F_X4_beforeAt s_o x1 = some r) : gM l D (tyL cB cI cJ cZ) yX4_beforeAt cX4_beforeAt 2 (some .int) rm_X4_beforeAt [.ref (o 0), .int x1] (w_X4_beforeAt o cB cI cJ cZ s_o) (some (.int r)) (w_X4_beforeAt o cB cI cJ cZ s_o) := by
  refine met_of (by decide) (Nat.le_of_ble_eq_true rfl) ?_
  intro p e s m args below meth c A cx hr hA
  show gW p l e rm_X4_beforeAt s m args below meth c D A 2 _ _ [(0, .ref (o 0)), (1, .int x1)] 0 []
  rw [F_X4_beforeAt] at hf
  refine g_aln cx 0 dX4_beforeAt_0 rfl ?_
  refine fg_RX4_18 cx 0 rfl rfl dX4_beforeAt_1 ?_
  refine g_iln cx 1 dX4_beforeAt_4 rfl ?_
  refine ob hf (fun q_1 hq_1 hf => ?_)
  refine g_callSiR cx lk_RX4_37 (c_X6_at l D cB cI cJ cZ (o 3) 8 (s4_befores s_o) x1 q_1 hq_1) rfl [3] rfl rfl rfl (Nat.le_of_ble_eq_true rfl) ⟨rfl, rfl, Nat.le_of_ble_eq_true rfl, Nat.le_of_ble_eq_true rfl⟩ dX4_beforeAt_5 ?_
  exact g_iret (ovf := fun (r : Int32) => (some (.int r))) (wf := fun (r : Int32) => (w_X4_beforeAt o cB cI cJ cZ s_o)) cx hA hr hf rfl rfl dX4_beforeAt_8
theorem dX4_setWord_0 : decode cX4_setWord 0 = .ok (.aload_n 0, 1) := by decide +kernel
theorem dX4_setWord_1 : decode cX4_setWord 1 = .ok (.getfield 9, 3) := by decide +kernel
theorem dX4_setWord_4 : decode cX4_setWord 4 = .ok (.iload_n 1, 1) := by decide +kernel
theorem dX4_setWord_5 : decode cX4_setWord 5 = .ok (.iload_n 2, 1) := by decide +kernel
theorem dX4_setWord_6 : decode cX4_setWord 6 = .ok (.invokestatic 43, 3) := by decide +kernel
theorem dX4_setWord_9 : decode cX4_setWord 9 = .ok (.return_, 1) := by decide +kernel
theorem q2_178 : Cond.static yX6_set ∈ TT := tq2 178 rfl rfl
theorem q2_179 : Cond.code yX6_set cX6_set 3 none ∈ TT := tq2 179 rfl rfl
theorem q3_16 : Cond.methodLink RX4 43 yX6_set ∈ TT := tq3 16 rfl rfl
theorem lk_RX4_43 : slk RX4 43 yX6_set cX6_set 3 none 3 := ⟨List.forall_mem_cons.mpr ⟨q3_16, List.forall_mem_cons.mpr ⟨q2_178, List.forall_mem_cons.mpr ⟨q1_19, fun _ h => absurd h List.not_mem_nil⟩⟩⟩, q2_179, by decide, by decide, by decide +kernel⟩
def F_X4_setWord (s_o : S4) (x1 : Int32) (x2 : Int32) : Option (S4) := (F_X6_set 8 (s4_words s_o) x1 x2).bind fun q_1 => some ((u4_words s_o q_1))
def w_X4_setWord (o : Nat → Nat) (cB cI cJ cZ : ClassId) (s_o : S4) : va_W := [(o 0, .inr (4, [.ref (o 1), .ref (o 2), .ref (o 3), .int (s4_most s_o), .int (s4_size s_o)])), (o 1, .inl (cI, 8, .inl (s4_words s_o))), (o 2, .inl (cI, 8, .inl (s4_things s_o))), (o 3, .inl (cI, 8, .inl (s4_befores s_o)))]
abbrev rm_X4_setWord : Room := { frames := 1, cells := 0, slots := 0, locals := 22 }
set_option maxHeartbeats 4000000 in
set_option maxRecDepth 100000 in
theorem c_X4_setWord (l : Launch) (D : va_G) (cB cI cJ cZ : ClassId) (o : Nat → Nat) (s_o : S4) (x1 : Int32) (x2 : Int32) (r : S4) (hf : F_X4_setWord s_o x1 x2 = some r) : gM l D (tyL cB cI cJ cZ) yX4_setWord cX4_setWord 3 none rm_X4_setWord [.ref (o 0), .int x1, .int x2] (w_X4_setWord o cB cI cJ cZ s_o) none (w_X4_setWord o cB cI cJ cZ r) := by
  refine met_of (by decide) (Nat.le_of_ble_eq_true rfl) ?_
  intro p e s m args below meth c A cx hr hA
  show gW p l e rm_X4_setWord s m args below meth c D A 3 _ _ [(0, .ref (o 0)), (1, .int x1), (2, .int x2)] 0 []
  rw [F_X4_setWord] at hf
  refine g_aln cx 0 dX4_setWord_0 rfl ?_
  refine fg_RX4_9 cx 0 rfl rfl dX4_setWord_1 ?_
  refine g_iln cx 1 dX4_setWord_4 rfl ?_
  refine g_iln cx 2 dX4_setWord_5 rfl ?_
  refine ob hf (fun q_1 hq_1 hf => ?_)
  refine g_callSv cx lk_RX4_43 (c_X6_set l D cB cI cJ cZ (o 1) 8 (s4_words s_o) x1 x2 q_1 hq_1) rfl [1] rfl rfl (ws' := (w_X4_setWord o cB cI cJ cZ (u4_words s_o q_1))) rfl rfl rfl (Nat.le_of_ble_eq_true rfl) ⟨rfl, rfl, Nat.le_of_ble_eq_true rfl, Nat.le_of_ble_eq_true rfl⟩ dX4_setWord_6 ?_
  exact g_vret (ovf := fun (r : S4) => none) (wf := fun (r : S4) => (w_X4_setWord o cB cI cJ cZ r)) cx hA hr hf rfl rfl dX4_setWord_9
theorem dX4_part_0 : decode cX4_part 0 = .ok (.aload_n 0, 1) := by decide +kernel
theorem dX4_part_1 : decode cX4_part 1 = .ok (.iload_n 1, 1) := by decide +kernel
theorem dX4_part_2 : decode cX4_part 2 = .ok (.invokevirtual 47, 3) := by decide +kernel
theorem dX4_part_5 : decode cX4_part 5 = .ok (.ifCond .ne 5, 3) := by decide +kernel
theorem dX4_part_8 : decode cX4_part 8 = .ok (.iconst (-1), 1) := by decide +kernel
theorem dX4_part_9 : decode cX4_part 9 = .ok (.ireturn, 1) := by decide +kernel
theorem dX4_part_10 : decode cX4_part 10 = .ok (.iload_n 2, 1) := by decide +kernel
theorem dX4_part_11 : decode cX4_part 11 = .ok (.tableswitch 43 0 2 #[25, 31, 37], 25) := by decide +kernel
theorem dX4_part_36 : decode cX4_part 36 = .ok (.aload_n 0, 1) := by decide +kernel
theorem dX4_part_37 : decode cX4_part 37 = .ok (.iload_n 1, 1) := by decide +kernel
theorem dX4_part_38 : decode cX4_part 38 = .ok (.invokevirtual 51, 3) := by decide +kernel
theorem dX4_part_41 : decode cX4_part 41 = .ok (.ireturn, 1) := by decide +kernel
theorem dX4_part_42 : decode cX4_part 42 = .ok (.aload_n 0, 1) := by decide +kernel
theorem dX4_part_43 : decode cX4_part 43 = .ok (.iload_n 1, 1) := by decide +kernel
theorem dX4_part_44 : decode cX4_part 44 = .ok (.invokevirtual 55, 3) := by decide +kernel
theorem dX4_part_47 : decode cX4_part 47 = .ok (.ireturn, 1) := by decide +kernel
theorem dX4_part_48 : decode cX4_part 48 = .ok (.aload_n 0, 1) := by decide +kernel
theorem dX4_part_49 : decode cX4_part 49 = .ok (.iload_n 1, 1) := by decide +kernel
theorem dX4_part_50 : decode cX4_part 50 = .ok (.invokevirtual 58, 3) := by decide +kernel
theorem dX4_part_53 : decode cX4_part 53 = .ok (.ireturn, 1) := by decide +kernel
theorem dX4_part_54 : decode cX4_part 54 = .ok (.iconst (-1), 1) := by decide +kernel
theorem dX4_part_55 : decode cX4_part 55 = .ok (.ireturn, 1) := by decide +kernel
theorem sw_2 {x : Int32} (h0 : ¬ x = 0) (h1 : ¬ x = 1) (h2 : ¬ x = 2) : ∀ n : Nat, n ≤ 2 → ¬ x = nI n := by
  intro n hn
  match n, hn with
  | 0, _ => exact h0
  | 1, _ => exact h1
  | 2, _ => exact h2
theorem q1_4 : Cond.initialized RX4 ∈ TT := tq1 4 rfl rfl
theorem q2_239 : Cond.methodLink RX4 51 yX4_wordAt ∈ TT := tq2 239 rfl rfl
theorem q3_0 : Cond.instanceMethod yX4_wordAt ∈ TT := tq3 0 rfl rfl
theorem q3_1 : Cond.selects RX4 yX4_wordAt yX4_wordAt ∈ TT := tq3 1 rfl rfl
theorem q3_2 : Cond.code yX4_wordAt cX4_wordAt 2 (some .int) ∈ TT := tq3 2 rfl rfl
theorem q3_4 : Cond.methodLink RX4 55 yX4_thingAt ∈ TT := tq3 4 rfl rfl
theorem q3_5 : Cond.instanceMethod yX4_thingAt ∈ TT := tq3 5 rfl rfl
theorem q3_6 : Cond.selects RX4 yX4_thingAt yX4_thingAt ∈ TT := tq3 6 rfl rfl
theorem q3_7 : Cond.code yX4_thingAt cX4_thingAt 2 (some .int) ∈ TT := tq3 7 rfl rfl
theorem q3_8 : Cond.methodLink RX4 58 yX4_beforeAt ∈ TT := tq3 8 rfl rfl
theorem q3_9 : Cond.instanceMethod yX4_beforeAt ∈ TT := tq3 9 rfl rfl
theorem q3_10 : Cond.selects RX4 yX4_beforeAt yX4_beforeAt ∈ TT := tq3 10 rfl rfl
theorem q3_11 : Cond.code yX4_beforeAt cX4_beforeAt 2 (some .int) ∈ TT := tq3 11 rfl rfl
theorem q3_74 : Cond.methodLink RX4 47 yX4_has ∈ TT := tq3 74 rfl rfl
theorem q3_75 : Cond.instanceMethod yX4_has ∈ TT := tq3 75 rfl rfl
theorem q3_76 : Cond.selects RX4 yX4_has yX4_has ∈ TT := tq3 76 rfl rfl
theorem q3_77 : Cond.code yX4_has cX4_has 2 (some .boolean) ∈ TT := tq3 77 rfl rfl
theorem lk_RX4_47 : vlk RX4 47 yX4_has cX4_has 2 (some .boolean) 1 := ⟨List.forall_mem_cons.mpr ⟨q3_74, List.forall_mem_cons.mpr ⟨q3_75, List.forall_mem_cons.mpr ⟨q3_76, List.forall_mem_cons.mpr ⟨q1_4, fun _ h => absurd h List.not_mem_nil⟩⟩⟩⟩, q3_77, by decide, by decide, by decide +kernel⟩
theorem lk_RX4_51 : vlk RX4 51 yX4_wordAt cX4_wordAt 2 (some .int) 1 := ⟨List.forall_mem_cons.mpr ⟨q2_239, List.forall_mem_cons.mpr ⟨q3_0, List.forall_mem_cons.mpr ⟨q3_1, List.forall_mem_cons.mpr ⟨q1_4, fun _ h => absurd h List.not_mem_nil⟩⟩⟩⟩, q3_2, by decide, by decide, by decide +kernel⟩
theorem lk_RX4_55 : vlk RX4 55 yX4_thingAt cX4_thingAt 2 (some .int) 1 := ⟨List.forall_mem_cons.mpr ⟨q3_4, List.forall_mem_cons.mpr ⟨q3_5, List.forall_mem_cons.mpr ⟨q3_6, List.forall_mem_cons.mpr ⟨q1_4, fun _ h => absurd h List.not_mem_nil⟩⟩⟩⟩, q3_7, by decide, by decide, by decide +kernel⟩
theorem lk_RX4_58 : vlk RX4 58 yX4_beforeAt cX4_beforeAt 2 (some .int) 1 := ⟨List.forall_mem_cons.mpr ⟨q3_8, List.forall_mem_cons.mpr ⟨q3_9, List.forall_mem_cons.mpr ⟨q3_10, List.forall_mem_cons.mpr ⟨q1_4, fun _ h => absurd h List.not_mem_nil⟩⟩⟩⟩, q3_11, by decide, by decide, by decide +kernel⟩
def F_X4_part (s_o : S4) (x1 : Int32) (x2 : Int32) : Option (Int32) := (F_X4_has s_o x1).bind fun q_1 => (if q_1 = 0 then some ((-1)) else (if x2 = 0 then (F_X4_wordAt s_o x1).bind fun q_2 => some (q_2) else (if x2 = 1 then (F_X4_thingAt s_o x1).bind fun q_3 => some (q_3) else (if x2 = 2 then (F_X4_beforeAt s_o x1).bind fun q_4 => some (q_4) else some ((-1))))))
def w_X4_part (o : Nat → Nat) (cB cI cJ cZ : ClassId) (s_o : S4) : va_W := [(o 0, .inr (4, [.ref (o 1), .ref (o 2), .ref (o 3), .int (s4_most s_o), .int (s4_size s_o)])), (o 1, .inl (cI, 8, .inl (s4_words s_o))), (o 2, .inl (cI, 8, .inl (s4_things s_o))), (o 3, .inl (cI, 8, .inl (s4_befores s_o)))]
abbrev rm_X4_part : Room := { frames := 2, cells := 0, slots := 0, locals := 42 }
set_option maxHeartbeats 4000000 in
set_option maxRecDepth 100000 in
theorem c_X4_part (l : Launch) (D : va_G) (cB cI cJ cZ : ClassId) (o : Nat → Nat) (s_o : S4) (x1 : Int32) (x2 : Int32) (r : Int32) (hf : F_X4_part s_o x1 x2 = some r) : gM l D (tyL cB cI cJ cZ) yX4_part cX4_part 3 (some .int) rm_X4_part [.ref (o 0), .int x1, .int x2] (w_X4_part o cB cI cJ cZ s_o) (some (.int r)) (w_X4_part o cB cI cJ cZ s_o) := by
  refine met_of (by decide) (Nat.le_of_ble_eq_true rfl) ?_
  intro p e s m args below meth c A cx hr hA
  show gW p l e rm_X4_part s m args below meth c D A 3 _ _ [(0, .ref (o 0)), (1, .int x1), (2, .int x2)] 0 []
  rw [F_X4_part] at hf
  refine g_aln cx 0 dX4_part_0 rfl ?_
  refine g_iln cx 1 dX4_part_1 rfl ?_
  refine ob hf (fun q_1 hq_1 hf => ?_)
  refine g_callViR cx lk_RX4_47 (c_X4_has l D cB cI cJ cZ o s_o x1 q_1 hq_1) rfl [0, 1, 2, 3] rfl rfl (ci := 4) (q1 := 0) rfl rfl rfl (Nat.le_of_ble_eq_true rfl) ⟨rfl, rfl, Nat.le_of_ble_eq_true rfl, Nat.le_of_ble_eq_true rfl⟩ dX4_part_2 ?_
  refine g_if_ne (tgt := 10) cx hf dX4_part_5 rfl (fun hf => ?_) (fun hf => ?_)
  · refine g_iln cx 2 dX4_part_10 rfl ?_
    by_cases hx0 : x2 = 0
    · rw [if_pos hx0] at hf
      refine g_swIn (tgt := 36) cx 0 hx0 (by decide) dX4_part_11 (by decide) rfl rfl ?_
      refine g_aln cx 0 dX4_part_36 rfl ?_
      refine g_iln cx 1 dX4_part_37 rfl ?_
      refine ob hf (fun q_2 hq_2 hf => ?_)
      refine g_callViR cx lk_RX4_51 (c_X4_wordAt l D cB cI cJ cZ o s_o x1 q_2 hq_2) rfl [0, 1, 2, 3] rfl rfl (ci := 4) (q1 := 0) rfl rfl rfl (Nat.le_of_ble_eq_true rfl) ⟨rfl, rfl, Nat.le_of_ble_eq_true rfl, Nat.le_of_ble_eq_true rfl⟩ dX4_part_38 ?_
      exact g_iret (ovf := fun (r : Int32) => (some (.int r))) (wf := fun (r : Int32) => (w_X4_part o cB cI cJ cZ s_o)) cx hA hr hf rfl rfl dX4_part_41
    rw [if_neg hx0] at hf
    by_cases hx1 : x2 = 1
    · rw [if_pos hx1] at hf
      refine g_swIn (tgt := 42) cx 1 hx1 (by decide) dX4_part_11 (by decide) rfl rfl ?_
      refine g_aln cx 0 dX4_part_42 rfl ?_
      refine g_iln cx 1 dX4_part_43 rfl ?_
      refine ob hf (fun q_3 hq_3 hf => ?_)
      refine g_callViR cx lk_RX4_55 (c_X4_thingAt l D cB cI cJ cZ o s_o x1 q_3 hq_3) rfl [0, 1, 2, 3] rfl rfl (ci := 4) (q1 := 0) rfl rfl rfl (Nat.le_of_ble_eq_true rfl) ⟨rfl, rfl, Nat.le_of_ble_eq_true rfl, Nat.le_of_ble_eq_true rfl⟩ dX4_part_44 ?_
      exact g_iret (ovf := fun (r : Int32) => (some (.int r))) (wf := fun (r : Int32) => (w_X4_part o cB cI cJ cZ s_o)) cx hA hr hf rfl rfl dX4_part_47
    rw [if_neg hx1] at hf
    by_cases hx2 : x2 = 2
    · rw [if_pos hx2] at hf
      refine g_swIn (tgt := 48) cx 2 hx2 (by decide) dX4_part_11 (by decide) rfl rfl ?_
      refine g_aln cx 0 dX4_part_48 rfl ?_
      refine g_iln cx 1 dX4_part_49 rfl ?_
      refine ob hf (fun q_4 hq_4 hf => ?_)
      refine g_callViR cx lk_RX4_58 (c_X4_beforeAt l D cB cI cJ cZ o s_o x1 q_4 hq_4) rfl [0, 1, 2, 3] rfl rfl (ci := 4) (q1 := 0) rfl rfl rfl (Nat.le_of_ble_eq_true rfl) ⟨rfl, rfl, Nat.le_of_ble_eq_true rfl, Nat.le_of_ble_eq_true rfl⟩ dX4_part_50 ?_
      exact g_iret (ovf := fun (r : Int32) => (some (.int r))) (wf := fun (r : Int32) => (w_X4_part o cB cI cJ cZ s_o)) cx hA hr hf rfl rfl dX4_part_53
    rw [if_neg hx2] at hf
    refine g_swOut (tgt := 54) cx 2 (sw_2 hx0 hx1 hx2) dX4_part_11 rfl ?_
    refine g_ic cx dX4_part_54 k_icm1 ?_
    exact g_iret (ovf := fun (r : Int32) => (some (.int r))) (wf := fun (r : Int32) => (w_X4_part o cB cI cJ cZ s_o)) cx hA hr hf rfl rfl dX4_part_55
  · refine g_ic cx dX4_part_8 k_icm1 ?_
    exact g_iret (ovf := fun (r : Int32) => (some (.int r))) (wf := fun (r : Int32) => (w_X4_part o cB cI cJ cZ s_o)) cx hA hr hf rfl rfl dX4_part_9
theorem dX4_lay_0 : decode cX4_lay 0 = .ok (.aload_n 0, 1) := by decide +kernel
theorem dX4_lay_1 : decode cX4_lay 1 = .ok (.getfield 9, 3) := by decide +kernel
theorem dX4_lay_4 : decode cX4_lay 4 = .ok (.iload_n 1, 1) := by decide +kernel
theorem dX4_lay_5 : decode cX4_lay 5 = .ok (.iload_n 2, 1) := by decide +kernel
theorem dX4_lay_6 : decode cX4_lay 6 = .ok (.invokestatic 43, 3) := by decide +kernel
theorem dX4_lay_9 : decode cX4_lay 9 = .ok (.aload_n 0, 1) := by decide +kernel
theorem dX4_lay_10 : decode cX4_lay 10 = .ok (.getfield 15, 3) := by decide +kernel
theorem dX4_lay_13 : decode cX4_lay 13 = .ok (.iload_n 1, 1) := by decide +kernel
theorem dX4_lay_14 : decode cX4_lay 14 = .ok (.iload_n 3, 1) := by decide +kernel
theorem dX4_lay_15 : decode cX4_lay 15 = .ok (.invokestatic 43, 3) := by decide +kernel
theorem dX4_lay_18 : decode cX4_lay 18 = .ok (.aload_n 0, 1) := by decide +kernel
theorem dX4_lay_19 : decode cX4_lay 19 = .ok (.getfield 18, 3) := by decide +kernel
theorem dX4_lay_22 : decode cX4_lay 22 = .ok (.iload_n 1, 1) := by decide +kernel
theorem dX4_lay_23 : decode cX4_lay 23 = .ok (.iload 4, 2) := by decide +kernel
theorem dX4_lay_25 : decode cX4_lay 25 = .ok (.invokestatic 43, 3) := by decide +kernel
theorem dX4_lay_28 : decode cX4_lay 28 = .ok (.return_, 1) := by decide +kernel


def F_X4_lay (s_o : S4) (x1 : Int32) (x2 : Int32) (x3 : Int32) (x4 : Int32) : Option (S4) := (F_X6_set 8 (s4_words s_o) x1 x2).bind fun q_1 => (F_X6_set 8 (s4_things (u4_words s_o q_1)) x1 x3).bind fun q_2 => (F_X6_set 8 (s4_befores (u4_things (u4_words s_o q_1) q_2)) x1 x4).bind fun q_3 => some ((u4_befores (u4_things (u4_words s_o q_1) q_2) q_3))
def w_X4_lay (o : Nat → Nat) (cB cI cJ cZ : ClassId) (s_o : S4) : va_W := [(o 0, .inr (4, [.ref (o 1), .ref (o 2), .ref (o 3), .int (s4_most s_o), .int (s4_size s_o)])), (o 1, .inl (cI, 8, .inl (s4_words s_o))), (o 2, .inl (cI, 8, .inl (s4_things s_o))), (o 3, .inl (cI, 8, .inl (s4_befores s_o)))]
abbrev rm_X4_lay : Room := { frames := 1, cells := 0, slots := 0, locals := 22 }
set_option maxHeartbeats 4000000 in
set_option maxRecDepth 100000 in
theorem c_X4_lay (l : Launch) (D : va_G) (cB cI cJ cZ : ClassId) (o : Nat → Nat) (s_o : S4) (x1 : Int32) (x2 : Int32) (x3 : Int32) (x4 : Int32) (r : S4) (hf : F_X4_lay s_o x1 x2 x3 x4 = some r) : gM l D (tyL cB cI cJ cZ) yX4_lay cX4_lay 5 none rm_X4_lay [.ref (o 0), .int x1, .int x2, .int x3, .int x4] (w_X4_lay o cB cI cJ cZ s_o) none (w_X4_lay o cB cI cJ cZ r) := by
  refine met_of (by decide) (Nat.le_of_ble_eq_true rfl) ?_
  intro p e s m args below meth c A cx hr hA
  show gW p l e rm_X4_lay s m args below meth c D A 5 _ _ [(0, .ref (o 0)), (1, .int x1), (2, .int x2), (3, .int x3), (4, .int x4)] 0 []
  rw [F_X4_lay] at hf
  refine g_aln cx 0 dX4_lay_0 rfl ?_
  refine fg_RX4_9 cx 0 rfl rfl dX4_lay_1 ?_
  refine g_iln cx 1 dX4_lay_4 rfl ?_
  refine g_iln cx 2 dX4_lay_5 rfl ?_
  refine ob hf (fun q_1 hq_1 hf => ?_)
  refine g_callSv cx lk_RX4_43 (c_X6_set l D cB cI cJ cZ (o 1) 8 (s4_words s_o) x1 x2 q_1 hq_1) rfl [1] rfl rfl (ws' := (w_X4_lay o cB cI cJ cZ (u4_words s_o q_1))) rfl rfl rfl (Nat.le_of_ble_eq_true rfl) ⟨rfl, rfl, Nat.le_of_ble_eq_true rfl, Nat.le_of_ble_eq_true rfl⟩ dX4_lay_6 ?_
  refine g_aln cx 0 dX4_lay_9 rfl ?_
  refine fg_RX4_15 cx 0 rfl rfl dX4_lay_10 ?_
  refine g_iln cx 1 dX4_lay_13 rfl ?_
  refine g_iln cx 3 dX4_lay_14 rfl ?_
  refine ob hf (fun q_2 hq_2 hf => ?_)
  refine g_callSv cx lk_RX4_43 (c_X6_set l D cB cI cJ cZ (o 2) 8 (s4_things (u4_words s_o q_1)) x1 x3 q_2 hq_2) rfl [2] rfl rfl (ws' := (w_X4_lay o cB cI cJ cZ (u4_things (u4_words s_o q_1) q_2))) rfl rfl rfl (Nat.le_of_ble_eq_true rfl) ⟨rfl, rfl, Nat.le_of_ble_eq_true rfl, Nat.le_of_ble_eq_true rfl⟩ dX4_lay_15 ?_
  refine g_aln cx 0 dX4_lay_18 rfl ?_
  refine fg_RX4_18 cx 0 rfl rfl dX4_lay_19 ?_
  refine g_iln cx 1 dX4_lay_22 rfl ?_
  refine g_il cx 4 dX4_lay_23 rfl ?_
  refine ob hf (fun q_3 hq_3 hf => ?_)
  refine g_callSv cx lk_RX4_43 (c_X6_set l D cB cI cJ cZ (o 3) 8 (s4_befores (u4_things (u4_words s_o q_1) q_2)) x1 x4 q_3 hq_3) rfl [3] rfl rfl (ws' := (w_X4_lay o cB cI cJ cZ (u4_befores (u4_things (u4_words s_o q_1) q_2) q_3))) rfl rfl rfl (Nat.le_of_ble_eq_true rfl) ⟨rfl, rfl, Nat.le_of_ble_eq_true rfl, Nat.le_of_ble_eq_true rfl⟩ dX4_lay_25 ?_
  exact g_vret (ovf := fun (r : S4) => none) (wf := fun (r : S4) => (w_X4_lay o cB cI cJ cZ r)) cx hA hr hf rfl rfl dX4_lay_28
theorem dX4_insert_0 : decode cX4_insert 0 = .ok (.aload_n 0, 1) := by decide +kernel
theorem dX4_insert_1 : decode cX4_insert 1 = .ok (.invokevirtual 61, 3) := by decide +kernel
theorem dX4_insert_4 : decode cX4_insert 4 = .ok (.ifCond .ne 15, 3) := by decide +kernel
theorem dX4_insert_7 : decode cX4_insert 7 = .ok (.iload_n 1, 1) := by decide +kernel
theorem dX4_insert_8 : decode cX4_insert 8 = .ok (.ifCond .lt 11, 3) := by decide +kernel
theorem dX4_insert_11 : decode cX4_insert 11 = .ok (.iload_n 1, 1) := by decide +kernel
theorem dX4_insert_12 : decode cX4_insert 12 = .ok (.aload_n 0, 1) := by decide +kernel
theorem dX4_insert_13 : decode cX4_insert 13 = .ok (.getfield 31, 3) := by decide +kernel
theorem dX4_insert_16 : decode cX4_insert 16 = .ok (.if_icmp .le 4, 3) := by decide +kernel
theorem dX4_insert_19 : decode cX4_insert 19 = .ok (.return_, 1) := by decide +kernel
theorem dX4_insert_20 : decode cX4_insert 20 = .ok (.aload_n 0, 1) := by decide +kernel
theorem dX4_insert_21 : decode cX4_insert 21 = .ok (.getfield 31, 3) := by decide +kernel
theorem dX4_insert_24 : decode cX4_insert 24 = .ok (.istore 5, 2) := by decide +kernel
theorem dX4_insert_26 : decode cX4_insert 26 = .ok (.iload 5, 2) := by decide +kernel
theorem dX4_insert_28 : decode cX4_insert 28 = .ok (.iload_n 1, 1) := by decide +kernel
theorem dX4_insert_29 : decode cX4_insert 29 = .ok (.if_icmp .le 39, 3) := by decide +kernel
theorem dX4_insert_32 : decode cX4_insert 32 = .ok (.aload_n 0, 1) := by decide +kernel
theorem dX4_insert_33 : decode cX4_insert 33 = .ok (.iload 5, 2) := by decide +kernel
theorem dX4_insert_35 : decode cX4_insert 35 = .ok (.aload_n 0, 1) := by decide +kernel
theorem dX4_insert_36 : decode cX4_insert 36 = .ok (.iload 5, 2) := by decide +kernel
theorem dX4_insert_38 : decode cX4_insert 38 = .ok (.iconst 1, 1) := by decide +kernel
theorem dX4_insert_39 : decode cX4_insert 39 = .ok (.isub, 1) := by decide +kernel
theorem dX4_insert_40 : decode cX4_insert 40 = .ok (.invokevirtual 51, 3) := by decide +kernel
theorem dX4_insert_43 : decode cX4_insert 43 = .ok (.aload_n 0, 1) := by decide +kernel
theorem dX4_insert_44 : decode cX4_insert 44 = .ok (.iload 5, 2) := by decide +kernel
theorem dX4_insert_46 : decode cX4_insert 46 = .ok (.iconst 1, 1) := by decide +kernel
theorem dX4_insert_47 : decode cX4_insert 47 = .ok (.isub, 1) := by decide +kernel
theorem dX4_insert_48 : decode cX4_insert 48 = .ok (.invokevirtual 55, 3) := by decide +kernel
theorem dX4_insert_51 : decode cX4_insert 51 = .ok (.aload_n 0, 1) := by decide +kernel
theorem dX4_insert_52 : decode cX4_insert 52 = .ok (.iload 5, 2) := by decide +kernel
theorem dX4_insert_54 : decode cX4_insert 54 = .ok (.iconst 1, 1) := by decide +kernel
theorem dX4_insert_55 : decode cX4_insert 55 = .ok (.isub, 1) := by decide +kernel
theorem dX4_insert_56 : decode cX4_insert 56 = .ok (.invokevirtual 58, 3) := by decide +kernel
theorem dX4_insert_59 : decode cX4_insert 59 = .ok (.invokevirtual 65, 3) := by decide +kernel
theorem dX4_insert_62 : decode cX4_insert 62 = .ok (.iinc 5 (-1), 3) := by decide +kernel
theorem dX4_insert_65 : decode cX4_insert 65 = .ok (.goto (-39), 3) := by decide +kernel
theorem dX4_insert_68 : decode cX4_insert 68 = .ok (.aload_n 0, 1) := by decide +kernel
theorem dX4_insert_69 : decode cX4_insert 69 = .ok (.iload_n 1, 1) := by decide +kernel
theorem dX4_insert_70 : decode cX4_insert 70 = .ok (.iload_n 2, 1) := by decide +kernel
theorem dX4_insert_71 : decode cX4_insert 71 = .ok (.iload_n 3, 1) := by decide +kernel
theorem dX4_insert_72 : decode cX4_insert 72 = .ok (.iload 4, 2) := by decide +kernel
theorem dX4_insert_74 : decode cX4_insert 74 = .ok (.invokevirtual 65, 3) := by decide +kernel
theorem dX4_insert_77 : decode cX4_insert 77 = .ok (.aload_n 0, 1) := by decide +kernel
theorem dX4_insert_78 : decode cX4_insert 78 = .ok (.dup, 1) := by decide +kernel
theorem dX4_insert_79 : decode cX4_insert 79 = .ok (.getfield 31, 3) := by decide +kernel
theorem dX4_insert_82 : decode cX4_insert 82 = .ok (.iconst 1, 1) := by decide +kernel
theorem dX4_insert_83 : decode cX4_insert 83 = .ok (.iadd, 1) := by decide +kernel
theorem dX4_insert_84 : decode cX4_insert 84 = .ok (.putfield 31, 3) := by decide +kernel
theorem dX4_insert_87 : decode cX4_insert 87 = .ok (.return_, 1) := by decide +kernel
theorem k_incm1 (x : Int32) : x + Int32.ofInt (-1) = x - 1 := by rw [show Int32.ofInt (-1) = -1 from by decide]; exact (Int32.sub_eq_add_neg x 1).symm
theorem q0_2 : Cond.selects RX4 yX4_lay yX4_lay ∈ TT := tq0 2 rfl rfl
theorem q2_223 : Cond.instanceMethod yX4_isFull ∈ TT := tq2 223 rfl rfl
theorem q2_224 : Cond.selects RX4 yX4_isFull yX4_isFull ∈ TT := tq2 224 rfl rfl
theorem q2_225 : Cond.code yX4_isFull cX4_isFull 1 (some .boolean) ∈ TT := tq2 225 rfl rfl
theorem q2_238 : Cond.methodLink RX4 61 yX4_isFull ∈ TT := tq2 238 rfl rfl
theorem q3_12 : Cond.methodLink RX4 65 yX4_lay ∈ TT := tq3 12 rfl rfl
theorem q3_14 : Cond.instanceMethod yX4_lay ∈ TT := tq3 14 rfl rfl
theorem q3_15 : Cond.code yX4_lay cX4_lay 5 none ∈ TT := tq3 15 rfl rfl
theorem lk_RX4_65 : vlk RX4 65 yX4_lay cX4_lay 5 none 4 := ⟨List.forall_mem_cons.mpr ⟨q3_12, List.forall_mem_cons.mpr ⟨q3_14, List.forall_mem_cons.mpr ⟨q0_2, List.forall_mem_cons.mpr ⟨q1_4, fun _ h => absurd h List.not_mem_nil⟩⟩⟩⟩, q3_15, by decide, by decide, by decide +kernel⟩
theorem lk_RX4_61 : vlk RX4 61 yX4_isFull cX4_isFull 1 (some .boolean) 0 := ⟨List.forall_mem_cons.mpr ⟨q2_238, List.forall_mem_cons.mpr ⟨q2_223, List.forall_mem_cons.mpr ⟨q2_224, List.forall_mem_cons.mpr ⟨q1_4, fun _ h => absurd h List.not_mem_nil⟩⟩⟩⟩, q2_225, by decide, by decide, by decide +kernel⟩
def F_X4_insert_b26 (x1 : Int32) (x2 : Int32) (x3 : Int32) (x4 : Int32) : Nat → Int32 → S4 → Option (S4)
  | 0, _, _ => none
  | n + 1, v5, zs_o => (if v5 ≤ x1 then (F_X4_lay zs_o x1 x2 x3 x4).bind fun q_1 => nm (u4_size q_1 ((s4_size q_1) + 1)) fun s_o_2 => some (s_o_2) else (F_X4_wordAt zs_o (v5 - 1)).bind fun q_3 => (F_X4_thingAt zs_o (v5 - 1)).bind fun q_4 => (F_X4_beforeAt zs_o (v5 - 1)).bind fun q_5 => (F_X4_lay zs_o v5 q_3 q_4 q_5).bind fun q_6 => nm (v5 - 1) fun v5_7 => (F_X4_insert_b26 x1 x2 x3 x4 n) v5_7 q_6)
def F_X4_insert (s_o : S4) (x1 : Int32) (x2 : Int32) (x3 : Int32) (x4 : Int32) : Option (S4) := (F_X4_isFull s_o).bind fun q_8 => (if q_8 = 0 then (if x1 < 0 then some (s_o) else (if x1 ≤ (s4_size s_o) then nm (s4_size s_o) fun v5_9 => F_X4_insert_b26 x1 x2 x3 x4 fu v5_9 s_o else some (s_o))) else some (s_o))
def w_X4_insert (o : Nat → Nat) (cB cI cJ cZ : ClassId) (s_o : S4) : va_W := [(o 0, .inr (4, [.ref (o 1), .ref (o 2), .ref (o 3), .int (s4_most s_o), .int (s4_size s_o)])), (o 1, .inl (cI, 8, .inl (s4_words s_o))), (o 2, .inl (cI, 8, .inl (s4_things s_o))), (o 3, .inl (cI, 8, .inl (s4_befores s_o)))]
abbrev rm_X4_insert : Room := { frames := 2, cells := 0, slots := 0, locals := 46 }
set_option maxHeartbeats 4000000 in
set_option maxRecDepth 100000 in
theorem c_X4_insert (l : Launch) (D : va_G) (cB cI cJ cZ : ClassId) (o : Nat → Nat) (s_o : S4) (x1 : Int32) (x2 : Int32) (x3 : Int32) (x4 : Int32) (r : S4) (hf : F_X4_insert s_o x1 x2 x3 x4 = some r) : gM l D (tyL cB cI cJ cZ) yX4_insert cX4_insert 6 none rm_X4_insert [.ref (o 0), .int x1, .int x2, .int x3, .int x4] (w_X4_insert o cB cI cJ cZ s_o) none (w_X4_insert o cB cI cJ cZ r) := by
  refine met_of (by decide) (Nat.le_of_ble_eq_true rfl) ?_
  intro p e s m args below meth c A cx hr hA
  show gW p l e rm_X4_insert s m args below meth c D A 6 _ _ [(0, .ref (o 0)), (1, .int x1), (2, .int x2), (3, .int x3), (4, .int x4)] 0 []
  have h26 : ∀ (n : Nat) (v5 : Int32) (zs_o : S4), F_X4_insert_b26 x1 x2 x3 x4 n v5 zs_o = some r → gW p l e rm_X4_insert s m args below meth c D A 6 (MQ below (QM D (tyL cB cI cJ cZ) none (w_X4_insert o cB cI cJ cZ s_o) (w_X4_insert o cB cI cJ cZ r) s.heap.size) args s 0 0 A) (w_X4_insert o cB cI cJ cZ zs_o) [(0, .ref (o 0)), (1, .int x1), (2, .int x2), (3, .int x3), (4, .int x4), (5, .int v5)] 26 [] := by
    intro n
    induction n with
    | zero => intro v5 zs_o hf; rw [F_X4_insert_b26] at hf; cases hf
    | succ n ih =>
      intro v5 zs_o hf
      rw [F_X4_insert_b26] at hf
      refine g_il cx 5 dX4_insert_26 rfl ?_
      refine g_iln cx 1 dX4_insert_28 rfl ?_
      refine g_ic_le (tgt := 68) cx hf dX4_insert_29 rfl (fun hf => ?_) (fun hf => ?_)
      · refine g_aln cx 0 dX4_insert_68 rfl ?_
        refine g_iln cx 1 dX4_insert_69 rfl ?_
        refine g_iln cx 2 dX4_insert_70 rfl ?_
        refine g_iln cx 3 dX4_insert_71 rfl ?_
        refine g_il cx 4 dX4_insert_72 rfl ?_
        refine ob hf (fun q_1 hq_1 hf => ?_)
        refine g_callVv cx lk_RX4_65 (c_X4_lay l D cB cI cJ cZ o zs_o x1 x2 x3 x4 q_1 hq_1) rfl [0, 1, 2, 3] rfl rfl (ws' := (w_X4_insert o cB cI cJ cZ q_1)) rfl rfl (ci := 4) (q1 := 0) rfl rfl rfl (Nat.le_of_ble_eq_true rfl) ⟨rfl, rfl, Nat.le_of_ble_eq_true rfl, Nat.le_of_ble_eq_true rfl⟩ dX4_insert_74 ?_
        refine g_aln cx 0 dX4_insert_77 rfl ?_
        refine g_dup cx dX4_insert_78 rfl ?_
        refine fg_RX4_31 cx 0 rfl rfl dX4_insert_79 ?_
        refine g_ic cx dX4_insert_82 k_ic1 ?_
        refine g_iadd cx dX4_insert_83 ?_
        refine fp_RX4_31 cx 0 rfl (Nat.le_of_ble_eq_true rfl) (ws' := (w_X4_insert o cB cI cJ cZ (u4_size q_1 ((s4_size q_1) + 1)))) rfl dX4_insert_84 ?_
        refine g_nm (w := fun s_o_2 => (w_X4_insert o cB cI cJ cZ s_o_2)) hf (fun s_o_2 hf => ?_)
        exact g_vret (ovf := fun (r : S4) => none) (wf := fun (r : S4) => (w_X4_insert o cB cI cJ cZ r)) cx hA hr hf rfl rfl dX4_insert_87
      · refine g_aln cx 0 dX4_insert_32 rfl ?_
        refine g_il cx 5 dX4_insert_33 rfl ?_
        refine g_aln cx 0 dX4_insert_35 rfl ?_
        refine g_il cx 5 dX4_insert_36 rfl ?_
        refine g_ic cx dX4_insert_38 k_ic1 ?_
        refine g_isub cx dX4_insert_39 ?_
        refine ob hf (fun q_3 hq_3 hf => ?_)
        refine g_callViR cx lk_RX4_51 (c_X4_wordAt l D cB cI cJ cZ o zs_o (v5 - 1) q_3 hq_3) rfl [0, 1, 2, 3] rfl rfl (ci := 4) (q1 := 0) rfl rfl rfl (Nat.le_of_ble_eq_true rfl) ⟨rfl, rfl, Nat.le_of_ble_eq_true rfl, Nat.le_of_ble_eq_true rfl⟩ dX4_insert_40 ?_
        refine g_aln cx 0 dX4_insert_43 rfl ?_
        refine g_il cx 5 dX4_insert_44 rfl ?_
        refine g_ic cx dX4_insert_46 k_ic1 ?_
        refine g_isub cx dX4_insert_47 ?_
        refine ob hf (fun q_4 hq_4 hf => ?_)
        refine g_callViR cx lk_RX4_55 (c_X4_thingAt l D cB cI cJ cZ o zs_o (v5 - 1) q_4 hq_4) rfl [0, 1, 2, 3] rfl rfl (ci := 4) (q1 := 0) rfl rfl rfl (Nat.le_of_ble_eq_true rfl) ⟨rfl, rfl, Nat.le_of_ble_eq_true rfl, Nat.le_of_ble_eq_true rfl⟩ dX4_insert_48 ?_
        refine g_aln cx 0 dX4_insert_51 rfl ?_
        refine g_il cx 5 dX4_insert_52 rfl ?_
        refine g_ic cx dX4_insert_54 k_ic1 ?_
        refine g_isub cx dX4_insert_55 ?_
        refine ob hf (fun q_5 hq_5 hf => ?_)
        refine g_callViR cx lk_RX4_58 (c_X4_beforeAt l D cB cI cJ cZ o zs_o (v5 - 1) q_5 hq_5) rfl [0, 1, 2, 3] rfl rfl (ci := 4) (q1 := 0) rfl rfl rfl (Nat.le_of_ble_eq_true rfl) ⟨rfl, rfl, Nat.le_of_ble_eq_true rfl, Nat.le_of_ble_eq_true rfl⟩ dX4_insert_56 ?_
        refine ob hf (fun q_6 hq_6 hf => ?_)
        refine g_callVv cx lk_RX4_65 (c_X4_lay l D cB cI cJ cZ o zs_o v5 q_3 q_4 q_5 q_6 hq_6) rfl [0, 1, 2, 3] rfl rfl (ws' := (w_X4_insert o cB cI cJ cZ q_6)) rfl rfl (ci := 4) (q1 := 0) rfl rfl rfl (Nat.le_of_ble_eq_true rfl) ⟨rfl, rfl, Nat.le_of_ble_eq_true rfl, Nat.le_of_ble_eq_true rfl⟩ dX4_insert_59 ?_
        refine g_inc cx (L2 := fun v5_7 => [(5, .int v5_7), (0, .ref (o 0)), (1, .int x1), (2, .int x2), (3, .int x3), (4, .int x4)]) 5 hf dX4_insert_62 rfl (k_incm1 _) (Nat.le_of_ble_eq_true rfl) (fun _ => rfl) (fun v5_7 hf => ?_)
        refine g_goto (tgt := 26) cx dX4_insert_65 rfl ?_
        refine g_sub [1, 2, 3, 4, 5, 0] rfl ?_
        exact ih _ _ hf
  rw [F_X4_insert] at hf
  refine g_aln cx 0 dX4_insert_0 rfl ?_
  refine ob hf (fun q_8 hq_8 hf => ?_)
  refine g_callViR cx lk_RX4_61 (c_X4_isFull l D cB cI cJ cZ o s_o q_8 hq_8) rfl [0, 1, 2, 3] rfl rfl (ci := 4) (q1 := 0) rfl rfl rfl (Nat.le_of_ble_eq_true rfl) ⟨rfl, rfl, Nat.le_of_ble_eq_true rfl, Nat.le_of_ble_eq_true rfl⟩ dX4_insert_1 ?_
  refine g_if_ne (tgt := 19) cx hf dX4_insert_4 rfl (fun hf => ?_) (fun hf => ?_)
  · exact g_vret (ovf := fun (r : S4) => none) (wf := fun (r : S4) => (w_X4_insert o cB cI cJ cZ r)) cx hA hr hf rfl rfl dX4_insert_19
  · refine g_iln cx 1 dX4_insert_7 rfl ?_
    refine g_if_lt (tgt := 19) cx hf dX4_insert_8 rfl (fun hf => ?_) (fun hf => ?_)
    · exact g_vret (ovf := fun (r : S4) => none) (wf := fun (r : S4) => (w_X4_insert o cB cI cJ cZ r)) cx hA hr hf rfl rfl dX4_insert_19
    · refine g_iln cx 1 dX4_insert_11 rfl ?_
      refine g_aln cx 0 dX4_insert_12 rfl ?_
      refine fg_RX4_31 cx 0 rfl rfl dX4_insert_13 ?_
      refine g_ic_le (tgt := 20) cx hf dX4_insert_16 rfl (fun hf => ?_) (fun hf => ?_)
      · refine g_aln cx 0 dX4_insert_20 rfl ?_
        refine fg_RX4_31 cx 0 rfl rfl dX4_insert_21 ?_
        refine g_is cx (L2 := fun v5_9 => [(5, .int v5_9), (0, .ref (o 0)), (1, .int x1), (2, .int x2), (3, .int x3), (4, .int x4)]) hf dX4_insert_24 (Nat.le_of_ble_eq_true rfl) (fun _ => rfl) (fun v5_9 hf => ?_)
        refine g_sub [1, 2, 3, 4, 5, 0] rfl ?_
        exact h26 fu _ _ hf
      · exact g_vret (ovf := fun (r : S4) => none) (wf := fun (r : S4) => (w_X4_insert o cB cI cJ cZ r)) cx hA hr hf rfl rfl dX4_insert_19
theorem dX4_remove_0 : decode cX4_remove 0 = .ok (.aload_n 0, 1) := by decide +kernel
theorem dX4_remove_1 : decode cX4_remove 1 = .ok (.iload_n 1, 1) := by decide +kernel
theorem dX4_remove_2 : decode cX4_remove 2 = .ok (.invokevirtual 47, 3) := by decide +kernel
theorem dX4_remove_5 : decode cX4_remove 5 = .ok (.ifCond .ne 4, 3) := by decide +kernel
theorem dX4_remove_8 : decode cX4_remove 8 = .ok (.return_, 1) := by decide +kernel
theorem dX4_remove_9 : decode cX4_remove 9 = .ok (.iload_n 1, 1) := by decide +kernel
theorem dX4_remove_10 : decode cX4_remove 10 = .ok (.istore_n 2, 1) := by decide +kernel
theorem dX4_remove_11 : decode cX4_remove 11 = .ok (.iload_n 2, 1) := by decide +kernel
theorem dX4_remove_12 : decode cX4_remove 12 = .ok (.aload_n 0, 1) := by decide +kernel
theorem dX4_remove_13 : decode cX4_remove 13 = .ok (.getfield 31, 3) := by decide +kernel
theorem dX4_remove_16 : decode cX4_remove 16 = .ok (.iconst 1, 1) := by decide +kernel
theorem dX4_remove_17 : decode cX4_remove 17 = .ok (.isub, 1) := by decide +kernel
theorem dX4_remove_18 : decode cX4_remove 18 = .ok (.if_icmp .ge 35, 3) := by decide +kernel
theorem dX4_remove_21 : decode cX4_remove 21 = .ok (.aload_n 0, 1) := by decide +kernel
theorem dX4_remove_22 : decode cX4_remove 22 = .ok (.iload_n 2, 1) := by decide +kernel
theorem dX4_remove_23 : decode cX4_remove 23 = .ok (.aload_n 0, 1) := by decide +kernel
theorem dX4_remove_24 : decode cX4_remove 24 = .ok (.iload_n 2, 1) := by decide +kernel
theorem dX4_remove_25 : decode cX4_remove 25 = .ok (.iconst 1, 1) := by decide +kernel
theorem dX4_remove_26 : decode cX4_remove 26 = .ok (.iadd, 1) := by decide +kernel
theorem dX4_remove_27 : decode cX4_remove 27 = .ok (.invokevirtual 51, 3) := by decide +kernel
theorem dX4_remove_30 : decode cX4_remove 30 = .ok (.aload_n 0, 1) := by decide +kernel
theorem dX4_remove_31 : decode cX4_remove 31 = .ok (.iload_n 2, 1) := by decide +kernel
theorem dX4_remove_32 : decode cX4_remove 32 = .ok (.iconst 1, 1) := by decide +kernel
theorem dX4_remove_33 : decode cX4_remove 33 = .ok (.iadd, 1) := by decide +kernel
theorem dX4_remove_34 : decode cX4_remove 34 = .ok (.invokevirtual 55, 3) := by decide +kernel
theorem dX4_remove_37 : decode cX4_remove 37 = .ok (.aload_n 0, 1) := by decide +kernel
theorem dX4_remove_38 : decode cX4_remove 38 = .ok (.iload_n 2, 1) := by decide +kernel
theorem dX4_remove_39 : decode cX4_remove 39 = .ok (.iconst 1, 1) := by decide +kernel
theorem dX4_remove_40 : decode cX4_remove 40 = .ok (.iadd, 1) := by decide +kernel
theorem dX4_remove_41 : decode cX4_remove 41 = .ok (.invokevirtual 58, 3) := by decide +kernel
theorem dX4_remove_44 : decode cX4_remove 44 = .ok (.invokevirtual 65, 3) := by decide +kernel
theorem dX4_remove_47 : decode cX4_remove 47 = .ok (.iinc 2 1, 3) := by decide +kernel
theorem dX4_remove_50 : decode cX4_remove 50 = .ok (.goto (-39), 3) := by decide +kernel
theorem dX4_remove_53 : decode cX4_remove 53 = .ok (.aload_n 0, 1) := by decide +kernel
theorem dX4_remove_54 : decode cX4_remove 54 = .ok (.dup, 1) := by decide +kernel
theorem dX4_remove_55 : decode cX4_remove 55 = .ok (.getfield 31, 3) := by decide +kernel
theorem dX4_remove_58 : decode cX4_remove 58 = .ok (.iconst 1, 1) := by decide +kernel
theorem dX4_remove_59 : decode cX4_remove 59 = .ok (.isub, 1) := by decide +kernel
theorem dX4_remove_60 : decode cX4_remove 60 = .ok (.putfield 31, 3) := by decide +kernel
theorem dX4_remove_63 : decode cX4_remove 63 = .ok (.return_, 1) := by decide +kernel
theorem k_inc1 (x : Int32) : x + Int32.ofInt (1) = x + 1 := by rfl


def F_X4_remove_b11 (x1 : Int32) : Nat → Int32 → S4 → Option (S4)
  | 0, _, _ => none
  | n + 1, v2, zs_o => (if ((s4_size zs_o) - 1) ≤ v2 then nm (u4_size zs_o ((s4_size zs_o) - 1)) fun s_o_1 => some (s_o_1) else (F_X4_wordAt zs_o (v2 + 1)).bind fun q_2 => (F_X4_thingAt zs_o (v2 + 1)).bind fun q_3 => (F_X4_beforeAt zs_o (v2 + 1)).bind fun q_4 => (F_X4_lay zs_o v2 q_2 q_3 q_4).bind fun q_5 => nm (v2 + 1) fun v2_6 => (F_X4_remove_b11 x1 n) v2_6 q_5)
def F_X4_remove (s_o : S4) (x1 : Int32) : Option (S4) := (F_X4_has s_o x1).bind fun q_7 => (if q_7 = 0 then some (s_o) else nm x1 fun v2_8 => F_X4_remove_b11 x1 fu v2_8 s_o)
def w_X4_remove (o : Nat → Nat) (cB cI cJ cZ : ClassId) (s_o : S4) : va_W := [(o 0, .inr (4, [.ref (o 1), .ref (o 2), .ref (o 3), .int (s4_most s_o), .int (s4_size s_o)])), (o 1, .inl (cI, 8, .inl (s4_words s_o))), (o 2, .inl (cI, 8, .inl (s4_things s_o))), (o 3, .inl (cI, 8, .inl (s4_befores s_o)))]
abbrev rm_X4_remove : Room := { frames := 2, cells := 0, slots := 0, locals := 46 }
set_option maxHeartbeats 4000000 in
set_option maxRecDepth 100000 in
theorem c_X4_remove (l : Launch) (D : va_G) (cB cI cJ cZ : ClassId) (o : Nat → Nat) (s_o : S4) (x1 : Int32) (r : S4) (hf : F_X4_remove s_o x1 = some r) : gM l D (tyL cB cI cJ cZ) yX4_remove cX4_remove 3 none rm_X4_remove [.ref (o 0), .int x1] (w_X4_remove o cB cI cJ cZ s_o) none (w_X4_remove o cB cI cJ cZ r) := by
  refine met_of (by decide) (Nat.le_of_ble_eq_true rfl) ?_
  intro p e s m args below meth c A cx hr hA
  show gW p l e rm_X4_remove s m args below meth c D A 3 _ _ [(0, .ref (o 0)), (1, .int x1)] 0 []
  have h11 : ∀ (n : Nat) (v2 : Int32) (zs_o : S4), F_X4_remove_b11 x1 n v2 zs_o = some r → gW p l e rm_X4_remove s m args below meth c D A 3 (MQ below (QM D (tyL cB cI cJ cZ) none (w_X4_remove o cB cI cJ cZ s_o) (w_X4_remove o cB cI cJ cZ r) s.heap.size) args s 0 0 A) (w_X4_remove o cB cI cJ cZ zs_o) [(0, .ref (o 0)), (2, .int v2)] 11 [] := by
    intro n
    induction n with
    | zero => intro v2 zs_o hf; rw [F_X4_remove_b11] at hf; cases hf
    | succ n ih =>
      intro v2 zs_o hf
      rw [F_X4_remove_b11] at hf
      refine g_iln cx 1 dX4_remove_11 rfl ?_
      refine g_aln cx 0 dX4_remove_12 rfl ?_
      refine fg_RX4_31 cx 0 rfl rfl dX4_remove_13 ?_
      refine g_ic cx dX4_remove_16 k_ic1 ?_
      refine g_isub cx dX4_remove_17 ?_
      refine g_ic_ge (tgt := 53) cx hf dX4_remove_18 rfl (fun hf => ?_) (fun hf => ?_)
      · refine g_aln cx 0 dX4_remove_53 rfl ?_
        refine g_dup cx dX4_remove_54 rfl ?_
        refine fg_RX4_31 cx 0 rfl rfl dX4_remove_55 ?_
        refine g_ic cx dX4_remove_58 k_ic1 ?_
        refine g_isub cx dX4_remove_59 ?_
        refine fp_RX4_31 cx 0 rfl (Nat.le_of_ble_eq_true rfl) (ws' := (w_X4_remove o cB cI cJ cZ (u4_size zs_o ((s4_size zs_o) - 1)))) rfl dX4_remove_60 ?_
        refine g_nm (w := fun s_o_1 => (w_X4_remove o cB cI cJ cZ s_o_1)) hf (fun s_o_1 hf => ?_)
        exact g_vret (ovf := fun (r : S4) => none) (wf := fun (r : S4) => (w_X4_remove o cB cI cJ cZ r)) cx hA hr hf rfl rfl dX4_remove_63
      · refine g_aln cx 0 dX4_remove_21 rfl ?_
        refine g_iln cx 1 dX4_remove_22 rfl ?_
        refine g_aln cx 0 dX4_remove_23 rfl ?_
        refine g_iln cx 1 dX4_remove_24 rfl ?_
        refine g_ic cx dX4_remove_25 k_ic1 ?_
        refine g_iadd cx dX4_remove_26 ?_
        refine ob hf (fun q_2 hq_2 hf => ?_)
        refine g_callViR cx lk_RX4_51 (c_X4_wordAt l D cB cI cJ cZ o zs_o (v2 + 1) q_2 hq_2) rfl [0, 1, 2, 3] rfl rfl (ci := 4) (q1 := 0) rfl rfl rfl (Nat.le_of_ble_eq_true rfl) ⟨rfl, rfl, Nat.le_of_ble_eq_true rfl, Nat.le_of_ble_eq_true rfl⟩ dX4_remove_27 ?_
        refine g_aln cx 0 dX4_remove_30 rfl ?_
        refine g_iln cx 1 dX4_remove_31 rfl ?_
        refine g_ic cx dX4_remove_32 k_ic1 ?_
        refine g_iadd cx dX4_remove_33 ?_
        refine ob hf (fun q_3 hq_3 hf => ?_)
        refine g_callViR cx lk_RX4_55 (c_X4_thingAt l D cB cI cJ cZ o zs_o (v2 + 1) q_3 hq_3) rfl [0, 1, 2, 3] rfl rfl (ci := 4) (q1 := 0) rfl rfl rfl (Nat.le_of_ble_eq_true rfl) ⟨rfl, rfl, Nat.le_of_ble_eq_true rfl, Nat.le_of_ble_eq_true rfl⟩ dX4_remove_34 ?_
        refine g_aln cx 0 dX4_remove_37 rfl ?_
        refine g_iln cx 1 dX4_remove_38 rfl ?_
        refine g_ic cx dX4_remove_39 k_ic1 ?_
        refine g_iadd cx dX4_remove_40 ?_
        refine ob hf (fun q_4 hq_4 hf => ?_)
        refine g_callViR cx lk_RX4_58 (c_X4_beforeAt l D cB cI cJ cZ o zs_o (v2 + 1) q_4 hq_4) rfl [0, 1, 2, 3] rfl rfl (ci := 4) (q1 := 0) rfl rfl rfl (Nat.le_of_ble_eq_true rfl) ⟨rfl, rfl, Nat.le_of_ble_eq_true rfl, Nat.le_of_ble_eq_true rfl⟩ dX4_remove_41 ?_
        refine ob hf (fun q_5 hq_5 hf => ?_)
        refine g_callVv cx lk_RX4_65 (c_X4_lay l D cB cI cJ cZ o zs_o v2 q_2 q_3 q_4 q_5 hq_5) rfl [0, 1, 2, 3] rfl rfl (ws' := (w_X4_remove o cB cI cJ cZ q_5)) rfl rfl (ci := 4) (q1 := 0) rfl rfl rfl (Nat.le_of_ble_eq_true rfl) ⟨rfl, rfl, Nat.le_of_ble_eq_true rfl, Nat.le_of_ble_eq_true rfl⟩ dX4_remove_44 ?_
        refine g_inc cx (L2 := fun v2_6 => [(2, .int v2_6), (0, .ref (o 0))]) 1 hf dX4_remove_47 rfl (k_inc1 _) (Nat.le_of_ble_eq_true rfl) (fun _ => rfl) (fun v2_6 hf => ?_)
        refine g_goto (tgt := 11) cx dX4_remove_50 rfl ?_
        refine g_sub [1, 0] rfl ?_
        exact ih _ _ hf
  rw [F_X4_remove] at hf
  refine g_aln cx 0 dX4_remove_0 rfl ?_
  refine g_iln cx 1 dX4_remove_1 rfl ?_
  refine ob hf (fun q_7 hq_7 hf => ?_)
  refine g_callViR cx lk_RX4_47 (c_X4_has l D cB cI cJ cZ o s_o x1 q_7 hq_7) rfl [0, 1, 2, 3] rfl rfl (ci := 4) (q1 := 0) rfl rfl rfl (Nat.le_of_ble_eq_true rfl) ⟨rfl, rfl, Nat.le_of_ble_eq_true rfl, Nat.le_of_ble_eq_true rfl⟩ dX4_remove_2 ?_
  refine g_if_ne (tgt := 9) cx hf dX4_remove_5 rfl (fun hf => ?_) (fun hf => ?_)
  · refine g_iln cx 1 dX4_remove_9 rfl ?_
    refine g_isn cx (L2 := fun v2_8 => [(2, .int v2_8), (0, .ref (o 0)), (1, .int x1)]) hf dX4_remove_10 (Nat.le_of_ble_eq_true rfl) (fun _ => rfl) (fun v2_8 hf => ?_)
    refine g_sub [1, 0] rfl ?_
    exact h11 fu _ _ hf
  · exact g_vret (ovf := fun (r : S4) => none) (wf := fun (r : S4) => (w_X4_remove o cB cI cJ cZ r)) cx hA hr hf rfl rfl dX4_remove_8
theorem dX4_copyFrom_0 : decode cX4_copyFrom 0 = .ok (.aload_n 0, 1) := by decide +kernel
theorem dX4_copyFrom_1 : decode cX4_copyFrom 1 = .ok (.aload_n 1, 1) := by decide +kernel
theorem dX4_copyFrom_2 : decode cX4_copyFrom 2 = .ok (.invokevirtual 69, 3) := by decide +kernel
theorem dX4_copyFrom_5 : decode cX4_copyFrom 5 = .ok (.aload_n 0, 1) := by decide +kernel
theorem dX4_copyFrom_6 : decode cX4_copyFrom 6 = .ok (.getfield 27, 3) := by decide +kernel
theorem dX4_copyFrom_9 : decode cX4_copyFrom 9 = .ok (.invokestatic 21, 3) := by decide +kernel
theorem dX4_copyFrom_12 : decode cX4_copyFrom 12 = .ok (.putfield 31, 3) := by decide +kernel
theorem dX4_copyFrom_15 : decode cX4_copyFrom 15 = .ok (.iconst 0, 1) := by decide +kernel
theorem dX4_copyFrom_16 : decode cX4_copyFrom 16 = .ok (.istore_n 2, 1) := by decide +kernel
theorem dX4_copyFrom_17 : decode cX4_copyFrom 17 = .ok (.iload_n 2, 1) := by decide +kernel
theorem dX4_copyFrom_18 : decode cX4_copyFrom 18 = .ok (.aload_n 0, 1) := by decide +kernel
theorem dX4_copyFrom_19 : decode cX4_copyFrom 19 = .ok (.getfield 31, 3) := by decide +kernel
theorem dX4_copyFrom_22 : decode cX4_copyFrom 22 = .ok (.if_icmp .ge 29, 3) := by decide +kernel
theorem dX4_copyFrom_25 : decode cX4_copyFrom 25 = .ok (.aload_n 0, 1) := by decide +kernel
theorem dX4_copyFrom_26 : decode cX4_copyFrom 26 = .ok (.iload_n 2, 1) := by decide +kernel
theorem dX4_copyFrom_27 : decode cX4_copyFrom 27 = .ok (.aload_n 1, 1) := by decide +kernel
theorem dX4_copyFrom_28 : decode cX4_copyFrom 28 = .ok (.iload_n 2, 1) := by decide +kernel
theorem dX4_copyFrom_29 : decode cX4_copyFrom 29 = .ok (.invokevirtual 51, 3) := by decide +kernel
theorem dX4_copyFrom_32 : decode cX4_copyFrom 32 = .ok (.aload_n 1, 1) := by decide +kernel
theorem dX4_copyFrom_33 : decode cX4_copyFrom 33 = .ok (.iload_n 2, 1) := by decide +kernel
theorem dX4_copyFrom_34 : decode cX4_copyFrom 34 = .ok (.invokevirtual 55, 3) := by decide +kernel
theorem dX4_copyFrom_37 : decode cX4_copyFrom 37 = .ok (.aload_n 1, 1) := by decide +kernel
theorem dX4_copyFrom_38 : decode cX4_copyFrom 38 = .ok (.iload_n 2, 1) := by decide +kernel
theorem dX4_copyFrom_39 : decode cX4_copyFrom 39 = .ok (.invokevirtual 58, 3) := by decide +kernel
theorem dX4_copyFrom_42 : decode cX4_copyFrom 42 = .ok (.invokevirtual 65, 3) := by decide +kernel
theorem dX4_copyFrom_45 : decode cX4_copyFrom 45 = .ok (.iinc 2 1, 3) := by decide +kernel
theorem dX4_copyFrom_48 : decode cX4_copyFrom 48 = .ok (.goto (-31), 3) := by decide +kernel
theorem dX4_copyFrom_51 : decode cX4_copyFrom 51 = .ok (.return_, 1) := by decide +kernel
theorem q2_231 : Cond.instanceMethod yX4_size ∈ TT := tq2 231 rfl rfl
theorem q2_232 : Cond.selects RX4 yX4_size yX4_size ∈ TT := tq2 232 rfl rfl
theorem q2_233 : Cond.code yX4_size cX4_size 1 (some .int) ∈ TT := tq2 233 rfl rfl
theorem q4_110 : Cond.methodLink RX4 69 yX4_size ∈ TT := tq4 110 rfl rfl
theorem lk_RX4_69 : vlk RX4 69 yX4_size cX4_size 1 (some .int) 0 := ⟨List.forall_mem_cons.mpr ⟨q4_110, List.forall_mem_cons.mpr ⟨q2_231, List.forall_mem_cons.mpr ⟨q2_232, List.forall_mem_cons.mpr ⟨q1_4, fun _ h => absurd h List.not_mem_nil⟩⟩⟩⟩, q2_233, by decide, by decide, by decide +kernel⟩
def F_X4_copyFrom_b17 (s_a1 : S4) : Nat → Int32 → S4 → Option (S4)
  | 0, _, _ => none
  | n + 1, v2, zs_o => (if (s4_size zs_o) ≤ v2 then some (zs_o) else (F_X4_wordAt s_a1 v2).bind fun q_1 => (F_X4_thingAt s_a1 v2).bind fun q_2 => (F_X4_beforeAt s_a1 v2).bind fun q_3 => (F_X4_lay zs_o v2 q_1 q_2 q_3).bind fun q_4 => nm (v2 + 1) fun v2_5 => (F_X4_copyFrom_b17 s_a1 n) v2_5 q_4)
def F_X4_copyFrom (s_a1 : S4) (s_o : S4) : Option (S4) := (F_X4_size s_a1).bind fun q_6 => nm (u4_size s_o (if (s4_most s_o) < q_6 then (s4_most s_o) else q_6)) fun s_o_7 => nm 0 fun v2_8 => F_X4_copyFrom_b17 s_a1 fu v2_8 s_o_7
def w_X4_copyFrom (a1 o : Nat → Nat) (cB cI cJ cZ : ClassId) (s_a1 : S4) (s_o : S4) : va_W := [(a1 0, .inr (4, [.ref (a1 1), .ref (a1 2), .ref (a1 3), .int (s4_most s_a1), .int (s4_size s_a1)])), (a1 1, .inl (cI, 8, .inl (s4_words s_a1))), (a1 2, .inl (cI, 8, .inl (s4_things s_a1))), (a1 3, .inl (cI, 8, .inl (s4_befores s_a1))), (o 0, .inr (4, [.ref (o 1), .ref (o 2), .ref (o 3), .int (s4_most s_o), .int (s4_size s_o)])), (o 1, .inl (cI, 8, .inl (s4_words s_o))), (o 2, .inl (cI, 8, .inl (s4_things s_o))), (o 3, .inl (cI, 8, .inl (s4_befores s_o)))]
abbrev rm_X4_copyFrom : Room := { frames := 2, cells := 0, slots := 0, locals := 46 }
set_option maxHeartbeats 4000000 in
set_option maxRecDepth 100000 in
theorem c_X4_copyFrom (l : Launch) (D : va_G) (cB cI cJ cZ : ClassId) (a1 o : Nat → Nat) (s_a1 : S4) (s_o : S4) (r : S4) (hf : F_X4_copyFrom s_a1 s_o = some r) : gM l D (tyL cB cI cJ cZ) yX4_copyFrom cX4_copyFrom 3 none rm_X4_copyFrom [.ref (o 0), .ref (a1 0)] (w_X4_copyFrom a1 o cB cI cJ cZ s_a1 s_o) none (w_X4_copyFrom a1 o cB cI cJ cZ s_a1 r) := by
  refine met_of (by decide) (Nat.le_of_ble_eq_true rfl) ?_
  intro p e s m args below meth c A cx hr hA
  show gW p l e rm_X4_copyFrom s m args below meth c D A 3 _ _ [(0, .ref (o 0)), (1, .ref (a1 0))] 0 []
  have h17 : ∀ (n : Nat) (v2 : Int32) (zs_o : S4), F_X4_copyFrom_b17 s_a1 n v2 zs_o = some r → gW p l e rm_X4_copyFrom s m args below meth c D A 3 (MQ below (QM D (tyL cB cI cJ cZ) none (w_X4_copyFrom a1 o cB cI cJ cZ s_a1 s_o) (w_X4_copyFrom a1 o cB cI cJ cZ s_a1 r) s.heap.size) args s 0 0 A) (w_X4_copyFrom a1 o cB cI cJ cZ s_a1 zs_o) [(0, .ref (o 0)), (1, .ref (a1 0)), (2, .int v2)] 17 [] := by
    intro n
    induction n with
    | zero => intro v2 zs_o hf; rw [F_X4_copyFrom_b17] at hf; cases hf
    | succ n ih =>
      intro v2 zs_o hf
      rw [F_X4_copyFrom_b17] at hf
      refine g_iln cx 2 dX4_copyFrom_17 rfl ?_
      refine g_aln cx 0 dX4_copyFrom_18 rfl ?_
      refine fg_RX4_31 cx 4 rfl rfl dX4_copyFrom_19 ?_
      refine g_ic_ge (tgt := 51) cx hf dX4_copyFrom_22 rfl (fun hf => ?_) (fun hf => ?_)
      · exact g_vret (ovf := fun (r : S4) => none) (wf := fun (r : S4) => (w_X4_copyFrom a1 o cB cI cJ cZ s_a1 r)) cx hA hr hf rfl rfl dX4_copyFrom_51
      · refine g_aln cx 0 dX4_copyFrom_25 rfl ?_
        refine g_iln cx 2 dX4_copyFrom_26 rfl ?_
        refine g_aln cx 1 dX4_copyFrom_27 rfl ?_
        refine g_iln cx 2 dX4_copyFrom_28 rfl ?_
        refine ob hf (fun q_1 hq_1 hf => ?_)
        refine g_callViR cx lk_RX4_51 (c_X4_wordAt l D cB cI cJ cZ a1 s_a1 v2 q_1 hq_1) rfl [0, 1, 2, 3] rfl rfl (ci := 4) (q1 := 0) rfl rfl rfl (Nat.le_of_ble_eq_true rfl) ⟨rfl, rfl, Nat.le_of_ble_eq_true rfl, Nat.le_of_ble_eq_true rfl⟩ dX4_copyFrom_29 ?_
        refine g_aln cx 1 dX4_copyFrom_32 rfl ?_
        refine g_iln cx 2 dX4_copyFrom_33 rfl ?_
        refine ob hf (fun q_2 hq_2 hf => ?_)
        refine g_callViR cx lk_RX4_55 (c_X4_thingAt l D cB cI cJ cZ a1 s_a1 v2 q_2 hq_2) rfl [0, 1, 2, 3] rfl rfl (ci := 4) (q1 := 0) rfl rfl rfl (Nat.le_of_ble_eq_true rfl) ⟨rfl, rfl, Nat.le_of_ble_eq_true rfl, Nat.le_of_ble_eq_true rfl⟩ dX4_copyFrom_34 ?_
        refine g_aln cx 1 dX4_copyFrom_37 rfl ?_
        refine g_iln cx 2 dX4_copyFrom_38 rfl ?_
        refine ob hf (fun q_3 hq_3 hf => ?_)
        refine g_callViR cx lk_RX4_58 (c_X4_beforeAt l D cB cI cJ cZ a1 s_a1 v2 q_3 hq_3) rfl [0, 1, 2, 3] rfl rfl (ci := 4) (q1 := 0) rfl rfl rfl (Nat.le_of_ble_eq_true rfl) ⟨rfl, rfl, Nat.le_of_ble_eq_true rfl, Nat.le_of_ble_eq_true rfl⟩ dX4_copyFrom_39 ?_
        refine ob hf (fun q_4 hq_4 hf => ?_)
        refine g_callVv cx lk_RX4_65 (c_X4_lay l D cB cI cJ cZ o zs_o v2 q_1 q_2 q_3 q_4 hq_4) rfl [4, 5, 6, 7] rfl rfl (ws' := (w_X4_copyFrom a1 o cB cI cJ cZ s_a1 q_4)) rfl rfl (ci := 4) (q1 := 0) rfl rfl rfl (Nat.le_of_ble_eq_true rfl) ⟨rfl, rfl, Nat.le_of_ble_eq_true rfl, Nat.le_of_ble_eq_true rfl⟩ dX4_copyFrom_42 ?_
        refine g_inc cx (L2 := fun v2_5 => [(2, .int v2_5), (0, .ref (o 0)), (1, .ref (a1 0))]) 2 hf dX4_copyFrom_45 rfl (k_inc1 _) (Nat.le_of_ble_eq_true rfl) (fun _ => rfl) (fun v2_5 hf => ?_)
        refine g_goto (tgt := 17) cx dX4_copyFrom_48 rfl ?_
        refine g_sub [1, 2, 0] rfl ?_
        exact ih _ _ hf
  rw [F_X4_copyFrom] at hf
  refine g_aln cx 0 dX4_copyFrom_0 rfl ?_
  refine g_aln cx 1 dX4_copyFrom_1 rfl ?_
  refine ob hf (fun q_6 hq_6 hf => ?_)
  refine g_callViR cx lk_RX4_69 (c_X4_size l D cB cI cJ cZ a1 s_a1 q_6 hq_6) rfl [0, 1, 2, 3] rfl rfl (ci := 4) (q1 := 0) rfl rfl rfl (Nat.le_of_ble_eq_true rfl) ⟨rfl, rfl, Nat.le_of_ble_eq_true rfl, Nat.le_of_ble_eq_true rfl⟩ dX4_copyFrom_2 ?_
  refine g_aln cx 0 dX4_copyFrom_5 rfl ?_
  refine fg_RX4_27 cx 4 rfl rfl dX4_copyFrom_6 ?_
  refine g_min cx mr_RX4_21 (Nat.le_of_ble_eq_true rfl) ⟨Nat.le_of_ble_eq_true rfl, Nat.le_of_ble_eq_true rfl⟩ dX4_copyFrom_9 ?_
  refine fp_RX4_31 cx 4 rfl (Nat.le_of_ble_eq_true rfl) (ws' := (w_X4_copyFrom a1 o cB cI cJ cZ s_a1 (u4_size s_o (if (s4_most s_o) < q_6 then (s4_most s_o) else q_6)))) rfl dX4_copyFrom_12 ?_
  refine g_nm (w := fun s_o_7 => (w_X4_copyFrom a1 o cB cI cJ cZ s_a1 s_o_7)) hf (fun s_o_7 hf => ?_)
  refine g_ic cx dX4_copyFrom_15 k_ic0 ?_
  refine g_isn cx (L2 := fun v2_8 => [(2, .int v2_8), (0, .ref (o 0)), (1, .ref (a1 0))]) hf dX4_copyFrom_16 (Nat.le_of_ble_eq_true rfl) (fun _ => rfl) (fun v2_8 hf => ?_)
  refine g_sub [1, 2, 0] rfl ?_
  exact h17 fu _ _ hf
end
section
theorem dJ7_fill_53178_0 : decode cJ7_fill_53178 0 = .ok (.iconst 0, 1) := by decide +kernel
theorem dJ7_fill_53178_1 : decode cJ7_fill_53178 1 = .ok (.istore_n 2, 1) := by decide +kernel
theorem dJ7_fill_53178_2 : decode cJ7_fill_53178 2 = .ok (.aload_n 0, 1) := by decide +kernel
theorem dJ7_fill_53178_3 : decode cJ7_fill_53178 3 = .ok (.arraylength, 1) := by decide +kernel
theorem dJ7_fill_53178_4 : decode cJ7_fill_53178 4 = .ok (.istore_n 3, 1) := by decide +kernel
theorem dJ7_fill_53178_5 : decode cJ7_fill_53178 5 = .ok (.iload_n 2, 1) := by decide +kernel
theorem dJ7_fill_53178_6 : decode cJ7_fill_53178 6 = .ok (.iload_n 3, 1) := by decide +kernel
theorem dJ7_fill_53178_7 : decode cJ7_fill_53178 7 = .ok (.if_icmp .ge 13, 3) := by decide +kernel
theorem dJ7_fill_53178_10 : decode cJ7_fill_53178 10 = .ok (.aload_n 0, 1) := by decide +kernel
theorem dJ7_fill_53178_11 : decode cJ7_fill_53178 11 = .ok (.iload_n 2, 1) := by decide +kernel
theorem dJ7_fill_53178_12 : decode cJ7_fill_53178 12 = .ok (.iload_n 1, 1) := by decide +kernel
theorem dJ7_fill_53178_13 : decode cJ7_fill_53178 13 = .ok (.iastore, 1) := by decide +kernel
theorem dJ7_fill_53178_14 : decode cJ7_fill_53178 14 = .ok (.iinc 2 1, 3) := by decide +kernel
theorem dJ7_fill_53178_17 : decode cJ7_fill_53178 17 = .ok (.goto (-12), 3) := by decide +kernel
theorem dJ7_fill_53178_20 : decode cJ7_fill_53178 20 = .ok (.return_, 1) := by decide +kernel


def F_J7_fill_53178_b5 (n_a0 : Nat) (x1 : Int32) : Nat → Int32 → Int32 → (Nat → Int32) → Option ((Nat → Int32))
  | 0, _, _, _ => none
  | n + 1, v2, v3, zf_a0 => (if v3 ≤ v2 then some (zf_a0) else (aset n_a0 zf_a0 v2 x1).bind fun f_1 => nm (v2 + 1) fun v2_2 => (F_J7_fill_53178_b5 n_a0 x1 n) v2_2 v3 f_1)
def F_J7_fill_53178 (n_a0 : Nat) (f_a0 : (Nat → Int32)) (x1 : Int32) : Option ((Nat → Int32)) := nm 0 fun v2_3 => nm (Int32.ofNat n_a0) fun v3_4 => F_J7_fill_53178_b5 n_a0 x1 fu v2_3 v3_4 f_a0
def w_J7_fill_53178 (a0 : Nat) (cB cI cJ cZ : ClassId) (n_a0 : Nat) (f_a0 : (Nat → Int32)) : va_W := [(a0, .inl (cI, n_a0, .inl f_a0))]
abbrev rm_J7_fill_53178 : Room := { frames := 0, cells := 0, slots := 0, locals := 0 }
set_option maxHeartbeats 4000000 in
set_option maxRecDepth 100000 in
theorem c_J7_fill_53178 (l : Launch) (D : va_G) (cB cI cJ cZ : ClassId) (a0 : Nat) (n_a0 : Nat) (f_a0 : (Nat → Int32)) (x1 : Int32) (r : (Nat → Int32)) (hf : F_J7_fill_53178 n_a0 f_a0 x1 = some r) : gM l D (tyL cB cI cJ cZ) yJ7_fill_53178 cJ7_fill_53178 4 none rm_J7_fill_53178 [.ref a0, .int x1] (w_J7_fill_53178 a0 cB cI cJ cZ n_a0 f_a0) none (w_J7_fill_53178 a0 cB cI cJ cZ n_a0 r) := by
  refine met_of (by decide) (Nat.le_of_ble_eq_true rfl) ?_
  intro p e s m args below meth c A cx hr hA
  show gW p l e rm_J7_fill_53178 s m args below meth c D A 4 _ _ [(0, .ref a0), (1, .int x1)] 0 []
  have h5 : ∀ (n : Nat) (v2 : Int32) (v3 : Int32) (zf_a0 : (Nat → Int32)), F_J7_fill_53178_b5 n_a0 x1 n v2 v3 zf_a0 = some r → gW p l e rm_J7_fill_53178 s m args below meth c D A 4 (MQ below (QM D (tyL cB cI cJ cZ) none (w_J7_fill_53178 a0 cB cI cJ cZ n_a0 f_a0) (w_J7_fill_53178 a0 cB cI cJ cZ n_a0 r) s.heap.size) args s 0 0 A) (w_J7_fill_53178 a0 cB cI cJ cZ n_a0 zf_a0) [(0, .ref a0), (1, .int x1), (2, .int v2), (3, .int v3)] 5 [] := by
    intro n
    induction n with
    | zero => intro v2 v3 zf_a0 hf; rw [F_J7_fill_53178_b5] at hf; cases hf
    | succ n ih =>
      intro v2 v3 zf_a0 hf
      rw [F_J7_fill_53178_b5] at hf
      refine g_iln cx 2 dJ7_fill_53178_5 rfl ?_
      refine g_iln cx 3 dJ7_fill_53178_6 rfl ?_
      refine g_ic_ge (tgt := 20) cx hf dJ7_fill_53178_7 rfl (fun hf => ?_) (fun hf => ?_)
      · exact g_vret (ovf := fun (r : (Nat → Int32)) => none) (wf := fun (r : (Nat → Int32)) => (w_J7_fill_53178 a0 cB cI cJ cZ n_a0 r)) cx hA hr hf rfl rfl dJ7_fill_53178_20
      · refine g_aln cx 0 dJ7_fill_53178_10 rfl ?_
        refine g_iln cx 2 dJ7_fill_53178_11 rfl ?_
        refine g_iln cx 1 dJ7_fill_53178_12 rfl ?_
        refine g_iast cx 0 1 (ws' := fun f_1 => (w_J7_fill_53178 a0 cB cI cJ cZ n_a0 f_1)) hf rfl rfl (fun _ => rfl) dJ7_fill_53178_13 (fun f_1 hf => ?_)
        refine g_inc cx (L2 := fun v2_2 => [(2, .int v2_2), (0, .ref a0), (1, .int x1), (3, .int v3)]) 2 hf dJ7_fill_53178_14 rfl (k_inc1 _) (Nat.le_of_ble_eq_true rfl) (fun _ => rfl) (fun v2_2 hf => ?_)
        refine g_goto (tgt := 5) cx dJ7_fill_53178_17 rfl ?_
        refine g_sub [1, 2, 0, 3] rfl ?_
        exact ih _ _ _ hf
  rw [F_J7_fill_53178] at hf
  refine g_ic cx dJ7_fill_53178_0 k_ic0 ?_
  refine g_isn cx (L2 := fun v2_3 => [(2, .int v2_3), (0, .ref a0), (1, .int x1)]) hf dJ7_fill_53178_1 (Nat.le_of_ble_eq_true rfl) (fun _ => rfl) (fun v2_3 hf => ?_)
  refine g_aln cx 1 dJ7_fill_53178_2 rfl ?_
  refine g_alen cx 0 1 rfl rfl rfl dJ7_fill_53178_3 ?_
  refine g_isn cx (L2 := fun v3_4 => [(3, .int v3_4), (2, .int v2_3), (0, .ref a0), (1, .int x1)]) hf dJ7_fill_53178_4 (Nat.le_of_ble_eq_true rfl) (fun _ => rfl) (fun v3_4 hf => ?_)
  refine g_sub [2, 3, 1, 0] rfl ?_
  exact h5 fu _ _ _ hf
theorem dJ6_bitCount_0f7a4_0 : decode cJ6_bitCount_0f7a4 0 = .ok (.iload_n 0, 1) := by decide +kernel
theorem dJ6_bitCount_0f7a4_1 : decode cJ6_bitCount_0f7a4 1 = .ok (.iload_n 0, 1) := by decide +kernel
theorem dJ6_bitCount_0f7a4_2 : decode cJ6_bitCount_0f7a4 2 = .ok (.iconst 1, 1) := by decide +kernel
theorem dJ6_bitCount_0f7a4_3 : decode cJ6_bitCount_0f7a4 3 = .ok (.iushr, 1) := by decide +kernel
theorem dJ6_bitCount_0f7a4_4 : decode cJ6_bitCount_0f7a4 4 = .ok (.ldc_w 265, 3) := by decide +kernel
theorem dJ6_bitCount_0f7a4_7 : decode cJ6_bitCount_0f7a4 7 = .ok (.iand, 1) := by decide +kernel
theorem dJ6_bitCount_0f7a4_8 : decode cJ6_bitCount_0f7a4 8 = .ok (.isub, 1) := by decide +kernel
theorem dJ6_bitCount_0f7a4_9 : decode cJ6_bitCount_0f7a4 9 = .ok (.istore_n 0, 1) := by decide +kernel
theorem dJ6_bitCount_0f7a4_10 : decode cJ6_bitCount_0f7a4 10 = .ok (.iload_n 0, 1) := by decide +kernel
theorem dJ6_bitCount_0f7a4_11 : decode cJ6_bitCount_0f7a4 11 = .ok (.ldc_w 266, 3) := by decide +kernel
theorem dJ6_bitCount_0f7a4_14 : decode cJ6_bitCount_0f7a4 14 = .ok (.iand, 1) := by decide +kernel
theorem dJ6_bitCount_0f7a4_15 : decode cJ6_bitCount_0f7a4 15 = .ok (.iload_n 0, 1) := by decide +kernel
theorem dJ6_bitCount_0f7a4_16 : decode cJ6_bitCount_0f7a4 16 = .ok (.iconst 2, 1) := by decide +kernel
theorem dJ6_bitCount_0f7a4_17 : decode cJ6_bitCount_0f7a4 17 = .ok (.iushr, 1) := by decide +kernel
theorem dJ6_bitCount_0f7a4_18 : decode cJ6_bitCount_0f7a4 18 = .ok (.ldc_w 266, 3) := by decide +kernel
theorem dJ6_bitCount_0f7a4_21 : decode cJ6_bitCount_0f7a4 21 = .ok (.iand, 1) := by decide +kernel
theorem dJ6_bitCount_0f7a4_22 : decode cJ6_bitCount_0f7a4 22 = .ok (.iadd, 1) := by decide +kernel
theorem dJ6_bitCount_0f7a4_23 : decode cJ6_bitCount_0f7a4 23 = .ok (.istore_n 0, 1) := by decide +kernel
theorem dJ6_bitCount_0f7a4_24 : decode cJ6_bitCount_0f7a4 24 = .ok (.iload_n 0, 1) := by decide +kernel
theorem dJ6_bitCount_0f7a4_25 : decode cJ6_bitCount_0f7a4 25 = .ok (.iload_n 0, 1) := by decide +kernel
theorem dJ6_bitCount_0f7a4_26 : decode cJ6_bitCount_0f7a4 26 = .ok (.iconst 4, 1) := by decide +kernel
theorem dJ6_bitCount_0f7a4_27 : decode cJ6_bitCount_0f7a4 27 = .ok (.iushr, 1) := by decide +kernel
theorem dJ6_bitCount_0f7a4_28 : decode cJ6_bitCount_0f7a4 28 = .ok (.iadd, 1) := by decide +kernel
theorem dJ6_bitCount_0f7a4_29 : decode cJ6_bitCount_0f7a4 29 = .ok (.ldc_w 267, 3) := by decide +kernel
theorem dJ6_bitCount_0f7a4_32 : decode cJ6_bitCount_0f7a4 32 = .ok (.iand, 1) := by decide +kernel
theorem dJ6_bitCount_0f7a4_33 : decode cJ6_bitCount_0f7a4 33 = .ok (.istore_n 0, 1) := by decide +kernel
theorem dJ6_bitCount_0f7a4_34 : decode cJ6_bitCount_0f7a4 34 = .ok (.iload_n 0, 1) := by decide +kernel
theorem dJ6_bitCount_0f7a4_35 : decode cJ6_bitCount_0f7a4 35 = .ok (.iload_n 0, 1) := by decide +kernel
theorem dJ6_bitCount_0f7a4_36 : decode cJ6_bitCount_0f7a4 36 = .ok (.bipush 8, 2) := by decide +kernel
theorem dJ6_bitCount_0f7a4_38 : decode cJ6_bitCount_0f7a4 38 = .ok (.iushr, 1) := by decide +kernel
theorem dJ6_bitCount_0f7a4_39 : decode cJ6_bitCount_0f7a4 39 = .ok (.iadd, 1) := by decide +kernel
theorem dJ6_bitCount_0f7a4_40 : decode cJ6_bitCount_0f7a4 40 = .ok (.istore_n 0, 1) := by decide +kernel
theorem dJ6_bitCount_0f7a4_41 : decode cJ6_bitCount_0f7a4 41 = .ok (.iload_n 0, 1) := by decide +kernel
theorem dJ6_bitCount_0f7a4_42 : decode cJ6_bitCount_0f7a4 42 = .ok (.iload_n 0, 1) := by decide +kernel
theorem dJ6_bitCount_0f7a4_43 : decode cJ6_bitCount_0f7a4 43 = .ok (.bipush 16, 2) := by decide +kernel
theorem dJ6_bitCount_0f7a4_45 : decode cJ6_bitCount_0f7a4 45 = .ok (.iushr, 1) := by decide +kernel
theorem dJ6_bitCount_0f7a4_46 : decode cJ6_bitCount_0f7a4 46 = .ok (.iadd, 1) := by decide +kernel
theorem dJ6_bitCount_0f7a4_47 : decode cJ6_bitCount_0f7a4 47 = .ok (.istore_n 0, 1) := by decide +kernel
theorem dJ6_bitCount_0f7a4_48 : decode cJ6_bitCount_0f7a4 48 = .ok (.iload_n 0, 1) := by decide +kernel
theorem dJ6_bitCount_0f7a4_49 : decode cJ6_bitCount_0f7a4 49 = .ok (.bipush 63, 2) := by decide +kernel
theorem dJ6_bitCount_0f7a4_51 : decode cJ6_bitCount_0f7a4 51 = .ok (.iand, 1) := by decide +kernel
theorem dJ6_bitCount_0f7a4_52 : decode cJ6_bitCount_0f7a4 52 = .ok (.ireturn, 1) := by decide +kernel
theorem k_bp8 : (Int8.ofInt (8)).toInt32 = 8 := by decide
theorem k_bp16 : (Int8.ofInt (16)).toInt32 = 16 := by decide
theorem k_bp63 : (Int8.ofInt (63)).toInt32 = 63 := by decide
theorem q3_213 : Cond.constant RJ6 265 (1431655765) ∈ TT := tq3 213 rfl rfl
theorem q3_214 : Cond.constant RJ6 266 (858993459) ∈ TT := tq3 214 rfl rfl
theorem q3_215 : Cond.constant RJ6 267 (252645135) ∈ TT := tq3 215 rfl rfl

def F_J6_bitCount_0f7a4 (x0 : Int32) : Option (Int32) := nm (x0 - ((x0.toUInt32 >>> (Int32.toUInt32 1 &&& Int32.toUInt32 31)).toInt32 &&& (1431655765))) fun v0_1 => nm ((v0_1 &&& (858993459)) + ((v0_1.toUInt32 >>> (Int32.toUInt32 2 &&& Int32.toUInt32 31)).toInt32 &&& (858993459))) fun v0_2 => nm ((v0_2 + (v0_2.toUInt32 >>> (Int32.toUInt32 4 &&& Int32.toUInt32 31)).toInt32) &&& (252645135)) fun v0_3 => nm (v0_3 + (v0_3.toUInt32 >>> (Int32.toUInt32 8 &&& Int32.toUInt32 31)).toInt32) fun v0_4 => nm (v0_4 + (v0_4.toUInt32 >>> (Int32.toUInt32 16 &&& Int32.toUInt32 31)).toInt32) fun v0_5 => some ((v0_5 &&& 63))
def w_J6_bitCount_0f7a4 (cB cI cJ cZ : ClassId) : va_W := []
abbrev rm_J6_bitCount_0f7a4 : Room := { frames := 0, cells := 0, slots := 0, locals := 0 }
set_option maxHeartbeats 4000000 in
set_option maxRecDepth 100000 in
theorem c_J6_bitCount_0f7a4 (l : Launch) (D : va_G) (cB cI cJ cZ : ClassId) (x0 : Int32) (r : Int32) (hf : F_J6_bitCount_0f7a4 x0 = some r) : gM l D (tyL cB cI cJ cZ) yJ6_bitCount_0f7a4 cJ6_bitCount_0f7a4 1 (some .int) rm_J6_bitCount_0f7a4 [.int x0] (w_J6_bitCount_0f7a4 cB cI cJ cZ) (some (.int r)) (w_J6_bitCount_0f7a4 cB cI cJ cZ) := by
  refine met_of (by decide) (Nat.le_of_ble_eq_true rfl) ?_
  intro p e s m args below meth c A cx hr hA
  show gW p l e rm_J6_bitCount_0f7a4 s m args below meth c D A 1 _ _ [(0, .int x0)] 0 []
  rw [F_J6_bitCount_0f7a4] at hf
  refine g_iln cx 0 dJ6_bitCount_0f7a4_0 rfl ?_
  refine g_iln cx 0 dJ6_bitCount_0f7a4_1 rfl ?_
  refine g_ic cx dJ6_bitCount_0f7a4_2 k_ic1 ?_
  refine g_iushr cx dJ6_bitCount_0f7a4_3 ?_
  refine g_ldcw cx q3_213 dJ6_bitCount_0f7a4_4 ?_
  refine g_iand cx dJ6_bitCount_0f7a4_7 ?_
  refine g_isub cx dJ6_bitCount_0f7a4_8 ?_
  refine g_isn cx (L2 := fun v0_1 => [(0, .int v0_1)]) hf dJ6_bitCount_0f7a4_9 (Nat.le_of_ble_eq_true rfl) (fun _ => rfl) (fun v0_1 hf => ?_)
  refine g_iln cx 0 dJ6_bitCount_0f7a4_10 rfl ?_
  refine g_ldcw cx q3_214 dJ6_bitCount_0f7a4_11 ?_
  refine g_iand cx dJ6_bitCount_0f7a4_14 ?_
  refine g_iln cx 0 dJ6_bitCount_0f7a4_15 rfl ?_
  refine g_ic cx dJ6_bitCount_0f7a4_16 k_ic2 ?_
  refine g_iushr cx dJ6_bitCount_0f7a4_17 ?_
  refine g_ldcw cx q3_214 dJ6_bitCount_0f7a4_18 ?_
  refine g_iand cx dJ6_bitCount_0f7a4_21 ?_
  refine g_iadd cx dJ6_bitCount_0f7a4_22 ?_
  refine g_isn cx (L2 := fun v0_2 => [(0, .int v0_2)]) hf dJ6_bitCount_0f7a4_23 (Nat.le_of_ble_eq_true rfl) (fun _ => rfl) (fun v0_2 hf => ?_)
  refine g_iln cx 0 dJ6_bitCount_0f7a4_24 rfl ?_
  refine g_iln cx 0 dJ6_bitCount_0f7a4_25 rfl ?_
  refine g_ic cx dJ6_bitCount_0f7a4_26 k_ic4 ?_
  refine g_iushr cx dJ6_bitCount_0f7a4_27 ?_
  refine g_iadd cx dJ6_bitCount_0f7a4_28 ?_
  refine g_ldcw cx q3_215 dJ6_bitCount_0f7a4_29 ?_
  refine g_iand cx dJ6_bitCount_0f7a4_32 ?_
  refine g_isn cx (L2 := fun v0_3 => [(0, .int v0_3)]) hf dJ6_bitCount_0f7a4_33 (Nat.le_of_ble_eq_true rfl) (fun _ => rfl) (fun v0_3 hf => ?_)
  refine g_iln cx 0 dJ6_bitCount_0f7a4_34 rfl ?_
  refine g_iln cx 0 dJ6_bitCount_0f7a4_35 rfl ?_
  refine g_bp cx dJ6_bitCount_0f7a4_36 k_bp8 ?_
  refine g_iushr cx dJ6_bitCount_0f7a4_38 ?_
  refine g_iadd cx dJ6_bitCount_0f7a4_39 ?_
  refine g_isn cx (L2 := fun v0_4 => [(0, .int v0_4)]) hf dJ6_bitCount_0f7a4_40 (Nat.le_of_ble_eq_true rfl) (fun _ => rfl) (fun v0_4 hf => ?_)
  refine g_iln cx 0 dJ6_bitCount_0f7a4_41 rfl ?_
  refine g_iln cx 0 dJ6_bitCount_0f7a4_42 rfl ?_
  refine g_bp cx dJ6_bitCount_0f7a4_43 k_bp16 ?_
  refine g_iushr cx dJ6_bitCount_0f7a4_45 ?_
  refine g_iadd cx dJ6_bitCount_0f7a4_46 ?_
  refine g_isn cx (L2 := fun v0_5 => [(0, .int v0_5)]) hf dJ6_bitCount_0f7a4_47 (Nat.le_of_ble_eq_true rfl) (fun _ => rfl) (fun v0_5 hf => ?_)
  refine g_iln cx 0 dJ6_bitCount_0f7a4_48 rfl ?_
  refine g_bp cx dJ6_bitCount_0f7a4_49 k_bp63 ?_
  refine g_iand cx dJ6_bitCount_0f7a4_51 ?_
  exact g_iret (ovf := fun (r : Int32) => (some (.int r))) (wf := fun (r : Int32) => (w_J6_bitCount_0f7a4 cB cI cJ cZ)) cx hA hr hf rfl rfl dJ6_bitCount_0f7a4_52
theorem dX10_size_0 : decode cX10_size 0 = .ok (.aload_n 0, 1) := by decide +kernel
theorem dX10_size_1 : decode cX10_size 1 = .ok (.getfield 21, 3) := by decide +kernel
theorem dX10_size_4 : decode cX10_size 4 = .ok (.ireturn, 1) := by decide +kernel
theorem q1_169 : Cond.fieldLink RX10 21 "RhymeLaw$Words" "size" "I" ∈ TT := tq1 169 rfl rfl
theorem fg_RX10_21 {p : Program} {l : Launch} {e : Env} {R : Room} {s : State} {m : MethodId} {args : Array Value} {below : List Frame} {meth : Method} {c : Code} {D : va_G} {tys : List (ClassId × FieldType)} {A : Nat → Prop} {nL : Nat} {Q : State → Prop} {cc : ByteArray} {ws : va_W} {L : List (Nat × Value)} {pc : Nat} {stk : List Value} (cx : gX p s m args meth c cc nL RX10 D tys A) {a : Nat} {fs : List Value} {v : Value} (q0 : Nat) (he : ws[q0]? = some (a, .inr (8, fs))) (hv : fs[3]? = some v) (hd : decode cc pc = .ok (.getfield 21, 3)) (kk : gW p l e R s m args below meth c D A nL Q ws L (pc + 3) (v :: stk)) : gW p l e R s m args below meth c D A nL Q ws L pc (.ref a :: stk) :=
  g_get cx (C := RX10) (T := TX10) (N := 4) inT10 rfl 3 (Nat.le_of_ble_eq_true rfl) q1_169 rfl q0 he hv hd kk
def F_X10_size (s_o : S10) : Option (Int32) := some ((s10_size s_o))
def w_X10_size (o : Nat → Nat) (cB cI cJ cZ : ClassId) (s_o : S10) : va_W := [(o 0, .inr (8, [.ref (o 1), .ref (o 2), .ref (o 3), .int (s10_size s_o)])), (o 1, .inl (cI, 48, .inl (s10_sounds s_o))), (o 2, .inl (cI, 16, .inl (s10_meanings s_o))), (o 3, .inl (cI, 16, .inl (s10_syllables s_o)))]
abbrev rm_X10_size : Room := { frames := 0, cells := 0, slots := 0, locals := 0 }
set_option maxHeartbeats 4000000 in
set_option maxRecDepth 100000 in
theorem c_X10_size (l : Launch) (D : va_G) (cB cI cJ cZ : ClassId) (o : Nat → Nat) (s_o : S10) (r : Int32) (hf : F_X10_size s_o = some r) : gM l D (tyL cB cI cJ cZ) yX10_size cX10_size 1 (some .int) rm_X10_size [.ref (o 0)] (w_X10_size o cB cI cJ cZ s_o) (some (.int r)) (w_X10_size o cB cI cJ cZ s_o) := by
  refine met_of (by decide) (Nat.le_of_ble_eq_true rfl) ?_
  intro p e s m args below meth c A cx hr hA
  show gW p l e rm_X10_size s m args below meth c D A 1 _ _ [(0, .ref (o 0))] 0 []
  rw [F_X10_size] at hf
  refine g_aln cx 0 dX10_size_0 rfl ?_
  refine fg_RX10_21 cx 0 rfl rfl dX10_size_1 ?_
  exact g_iret (ovf := fun (r : Int32) => (some (.int r))) (wf := fun (r : Int32) => (w_X10_size o cB cI cJ cZ s_o)) cx hA hr hf rfl rfl dX10_size_4
theorem dX10_isFull_0 : decode cX10_isFull 0 = .ok (.aload_n 0, 1) := by decide +kernel
theorem dX10_isFull_1 : decode cX10_isFull 1 = .ok (.getfield 21, 3) := by decide +kernel
theorem dX10_isFull_4 : decode cX10_isFull 4 = .ok (.bipush 16, 2) := by decide +kernel
theorem dX10_isFull_6 : decode cX10_isFull 6 = .ok (.if_icmp .lt 7, 3) := by decide +kernel
theorem dX10_isFull_9 : decode cX10_isFull 9 = .ok (.iconst 1, 1) := by decide +kernel
theorem dX10_isFull_10 : decode cX10_isFull 10 = .ok (.goto 4, 3) := by decide +kernel
theorem dX10_isFull_13 : decode cX10_isFull 13 = .ok (.iconst 0, 1) := by decide +kernel
theorem dX10_isFull_14 : decode cX10_isFull 14 = .ok (.ireturn, 1) := by decide +kernel


def F_X10_isFull (s_o : S10) : Option (Int32) := (if (s10_size s_o) < 16 then some (0) else some (1))
def w_X10_isFull (o : Nat → Nat) (cB cI cJ cZ : ClassId) (s_o : S10) : va_W := [(o 0, .inr (8, [.ref (o 1), .ref (o 2), .ref (o 3), .int (s10_size s_o)])), (o 1, .inl (cI, 48, .inl (s10_sounds s_o))), (o 2, .inl (cI, 16, .inl (s10_meanings s_o))), (o 3, .inl (cI, 16, .inl (s10_syllables s_o)))]
abbrev rm_X10_isFull : Room := { frames := 0, cells := 0, slots := 0, locals := 0 }
set_option maxHeartbeats 4000000 in
set_option maxRecDepth 100000 in
theorem c_X10_isFull (l : Launch) (D : va_G) (cB cI cJ cZ : ClassId) (o : Nat → Nat) (s_o : S10) (r : Int32) (hf : F_X10_isFull s_o = some r) : gM l D (tyL cB cI cJ cZ) yX10_isFull cX10_isFull 1 (some .boolean) rm_X10_isFull [.ref (o 0)] (w_X10_isFull o cB cI cJ cZ s_o) (some (.int r)) (w_X10_isFull o cB cI cJ cZ s_o) := by
  refine met_of (by decide) (Nat.le_of_ble_eq_true rfl) ?_
  intro p e s m args below meth c A cx hr hA
  show gW p l e rm_X10_isFull s m args below meth c D A 1 _ _ [(0, .ref (o 0))] 0 []
  rw [F_X10_isFull] at hf
  refine g_aln cx 0 dX10_isFull_0 rfl ?_
  refine fg_RX10_21 cx 0 rfl rfl dX10_isFull_1 ?_
  refine g_bp cx dX10_isFull_4 k_bp16 ?_
  refine g_ic_lt (tgt := 13) cx hf dX10_isFull_6 rfl (fun hf => ?_) (fun hf => ?_)
  · refine g_ic cx dX10_isFull_13 k_ic0 ?_
    exact g_zret (ovf := fun (r : Int32) => (some (.int r))) (wf := fun (r : Int32) => (w_X10_isFull o cB cI cJ cZ s_o)) cx hA hr rfl hf rfl rfl dX10_isFull_14
  · refine g_ic cx dX10_isFull_9 k_ic1 ?_
    refine g_goto (tgt := 14) cx dX10_isFull_10 rfl ?_
    exact g_zret (ovf := fun (r : Int32) => (some (.int r))) (wf := fun (r : Int32) => (w_X10_isFull o cB cI cJ cZ s_o)) cx hA hr rfl hf rfl rfl dX10_isFull_14
theorem dX10_has_0 : decode cX10_has 0 = .ok (.iload_n 1, 1) := by decide +kernel
theorem dX10_has_1 : decode cX10_has 1 = .ok (.ifCond .lt 15, 3) := by decide +kernel
theorem dX10_has_4 : decode cX10_has 4 = .ok (.iload_n 1, 1) := by decide +kernel
theorem dX10_has_5 : decode cX10_has 5 = .ok (.aload_n 0, 1) := by decide +kernel
theorem dX10_has_6 : decode cX10_has 6 = .ok (.getfield 21, 3) := by decide +kernel
theorem dX10_has_9 : decode cX10_has 9 = .ok (.if_icmp .ge 7, 3) := by decide +kernel
theorem dX10_has_12 : decode cX10_has 12 = .ok (.iconst 1, 1) := by decide +kernel
theorem dX10_has_13 : decode cX10_has 13 = .ok (.goto 4, 3) := by decide +kernel
theorem dX10_has_16 : decode cX10_has 16 = .ok (.iconst 0, 1) := by decide +kernel
theorem dX10_has_17 : decode cX10_has 17 = .ok (.ireturn, 1) := by decide +kernel


def F_X10_has (s_o : S10) (x1 : Int32) : Option (Int32) := (if x1 < 0 then some (0) else (if (s10_size s_o) ≤ x1 then some (0) else some (1)))
def w_X10_has (o : Nat → Nat) (cB cI cJ cZ : ClassId) (s_o : S10) : va_W := [(o 0, .inr (8, [.ref (o 1), .ref (o 2), .ref (o 3), .int (s10_size s_o)])), (o 1, .inl (cI, 48, .inl (s10_sounds s_o))), (o 2, .inl (cI, 16, .inl (s10_meanings s_o))), (o 3, .inl (cI, 16, .inl (s10_syllables s_o)))]
abbrev rm_X10_has : Room := { frames := 0, cells := 0, slots := 0, locals := 0 }
set_option maxHeartbeats 4000000 in
set_option maxRecDepth 100000 in
theorem c_X10_has (l : Launch) (D : va_G) (cB cI cJ cZ : ClassId) (o : Nat → Nat) (s_o : S10) (x1 : Int32) (r : Int32) (hf : F_X10_has s_o x1 = some r) : gM l D (tyL cB cI cJ cZ) yX10_has cX10_has 2 (some .boolean) rm_X10_has [.ref (o 0), .int x1] (w_X10_has o cB cI cJ cZ s_o) (some (.int r)) (w_X10_has o cB cI cJ cZ s_o) := by
  refine met_of (by decide) (Nat.le_of_ble_eq_true rfl) ?_
  intro p e s m args below meth c A cx hr hA
  show gW p l e rm_X10_has s m args below meth c D A 2 _ _ [(0, .ref (o 0)), (1, .int x1)] 0 []
  rw [F_X10_has] at hf
  refine g_iln cx 1 dX10_has_0 rfl ?_
  refine g_if_lt (tgt := 16) cx hf dX10_has_1 rfl (fun hf => ?_) (fun hf => ?_)
  · refine g_ic cx dX10_has_16 k_ic0 ?_
    exact g_zret (ovf := fun (r : Int32) => (some (.int r))) (wf := fun (r : Int32) => (w_X10_has o cB cI cJ cZ s_o)) cx hA hr rfl hf rfl rfl dX10_has_17
  · refine g_iln cx 1 dX10_has_4 rfl ?_
    refine g_aln cx 0 dX10_has_5 rfl ?_
    refine fg_RX10_21 cx 0 rfl rfl dX10_has_6 ?_
    refine g_ic_ge (tgt := 16) cx hf dX10_has_9 rfl (fun hf => ?_) (fun hf => ?_)
    · refine g_ic cx dX10_has_16 k_ic0 ?_
      exact g_zret (ovf := fun (r : Int32) => (some (.int r))) (wf := fun (r : Int32) => (w_X10_has o cB cI cJ cZ s_o)) cx hA hr rfl hf rfl rfl dX10_has_17
    · refine g_ic cx dX10_has_12 k_ic1 ?_
      refine g_goto (tgt := 17) cx dX10_has_13 rfl ?_
      exact g_zret (ovf := fun (r : Int32) => (some (.int r))) (wf := fun (r : Int32) => (w_X10_has o cB cI cJ cZ s_o)) cx hA hr rfl hf rfl rfl dX10_has_17
theorem dX10_wipe_0 : decode cX10_wipe 0 = .ok (.aload_n 0, 1) := by decide +kernel
theorem dX10_wipe_1 : decode cX10_wipe 1 = .ok (.iconst 0, 1) := by decide +kernel
theorem dX10_wipe_2 : decode cX10_wipe 2 = .ok (.putfield 21, 3) := by decide +kernel
theorem dX10_wipe_5 : decode cX10_wipe 5 = .ok (.return_, 1) := by decide +kernel

theorem fp_RX10_21 {p : Program} {l : Launch} {e : Env} {R : Room} {s : State} {m : MethodId} {args : Array Value} {below : List Frame} {meth : Method} {c : Code} {D : va_G} {tys : List (ClassId × FieldType)} {A : Nat → Prop} {nL : Nat} {Q : State → Prop} {cc : ByteArray} {ws : va_W} {L : List (Nat × Value)} {pc : Nat} {stk : List Value} (cx : gX p s m args meth c cc nL RX10 D tys A) {a : Nat} {fs : List Value} {x : Int32} (q0 : Nat) (he : ws[q0]? = some (a, .inr (8, fs))) (hl : 3 < fs.length) {ws' : va_W} (hw : ws.set q0 (a, .inr (8, fs.set 3 (.int x))) = ws') (hd : decode cc pc = .ok (.putfield 21, 3)) (kk : gW p l e R s m args below meth c D A nL Q ws' L (pc + 3) stk) : gW p l e R s m args below meth c D A nL Q ws L pc (.int x :: .ref a :: stk) :=
  g_put cx (C := RX10) (T := TX10) (N := 4) (ty0 := tyX10) (ty := .int) inT10 tyX10_ok nmX10 rfl 3 (Nat.le_of_ble_eq_true rfl) q1_169 rfl rfl rfl rfl rfl q0 he hl hw hd kk
def F_X10_wipe (s_o : S10) : Option (S10) := nm (u10_size s_o 0) fun s_o_1 => some (s_o_1)
def w_X10_wipe (o : Nat → Nat) (cB cI cJ cZ : ClassId) (s_o : S10) : va_W := [(o 0, .inr (8, [.ref (o 1), .ref (o 2), .ref (o 3), .int (s10_size s_o)])), (o 1, .inl (cI, 48, .inl (s10_sounds s_o))), (o 2, .inl (cI, 16, .inl (s10_meanings s_o))), (o 3, .inl (cI, 16, .inl (s10_syllables s_o)))]
abbrev rm_X10_wipe : Room := { frames := 0, cells := 0, slots := 0, locals := 0 }
set_option maxHeartbeats 4000000 in
set_option maxRecDepth 100000 in
theorem c_X10_wipe (l : Launch) (D : va_G) (cB cI cJ cZ : ClassId) (o : Nat → Nat) (s_o : S10) (r : S10) (hf : F_X10_wipe s_o = some r) : gM l D (tyL cB cI cJ cZ) yX10_wipe cX10_wipe 1 none rm_X10_wipe [.ref (o 0)] (w_X10_wipe o cB cI cJ cZ s_o) none (w_X10_wipe o cB cI cJ cZ r) := by
  refine met_of (by decide) (Nat.le_of_ble_eq_true rfl) ?_
  intro p e s m args below meth c A cx hr hA
  show gW p l e rm_X10_wipe s m args below meth c D A 1 _ _ [(0, .ref (o 0))] 0 []
  rw [F_X10_wipe] at hf
  refine g_aln cx 0 dX10_wipe_0 rfl ?_
  refine g_ic cx dX10_wipe_1 k_ic0 ?_
  refine fp_RX10_21 cx 0 rfl (Nat.le_of_ble_eq_true rfl) (ws' := (w_X10_wipe o cB cI cJ cZ (u10_size s_o 0))) rfl dX10_wipe_2 ?_
  refine g_nm (w := fun s_o_1 => (w_X10_wipe o cB cI cJ cZ s_o_1)) hf (fun s_o_1 hf => ?_)
  exact g_vret (ovf := fun (r : S10) => none) (wf := fun (r : S10) => (w_X10_wipe o cB cI cJ cZ r)) cx hA hr hf rfl rfl dX10_wipe_5
theorem dX10_add_0 : decode cX10_add 0 = .ok (.aload_n 0, 1) := by decide +kernel
theorem dX10_add_1 : decode cX10_add 1 = .ok (.invokevirtual 25, 3) := by decide +kernel
theorem dX10_add_4 : decode cX10_add 4 = .ok (.ifCond .eq 4, 3) := by decide +kernel
theorem dX10_add_7 : decode cX10_add 7 = .ok (.return_, 1) := by decide +kernel
theorem dX10_add_8 : decode cX10_add 8 = .ok (.aload_n 0, 1) := by decide +kernel
theorem dX10_add_9 : decode cX10_add 9 = .ok (.getfield 9, 3) := by decide +kernel
theorem dX10_add_12 : decode cX10_add 12 = .ok (.aload_n 0, 1) := by decide +kernel
theorem dX10_add_13 : decode cX10_add 13 = .ok (.getfield 21, 3) := by decide +kernel
theorem dX10_add_16 : decode cX10_add 16 = .ok (.iload_n 1, 1) := by decide +kernel
theorem dX10_add_17 : decode cX10_add 17 = .ok (.invokestatic 29, 3) := by decide +kernel
theorem dX10_add_20 : decode cX10_add 20 = .ok (.aload_n 0, 1) := by decide +kernel
theorem dX10_add_21 : decode cX10_add 21 = .ok (.getfield 9, 3) := by decide +kernel
theorem dX10_add_24 : decode cX10_add 24 = .ok (.bipush 16, 2) := by decide +kernel
theorem dX10_add_26 : decode cX10_add 26 = .ok (.aload_n 0, 1) := by decide +kernel
theorem dX10_add_27 : decode cX10_add 27 = .ok (.getfield 21, 3) := by decide +kernel
theorem dX10_add_30 : decode cX10_add 30 = .ok (.iadd, 1) := by decide +kernel
theorem dX10_add_31 : decode cX10_add 31 = .ok (.iload_n 2, 1) := by decide +kernel
theorem dX10_add_32 : decode cX10_add 32 = .ok (.invokestatic 29, 3) := by decide +kernel
theorem dX10_add_35 : decode cX10_add 35 = .ok (.aload_n 0, 1) := by decide +kernel
theorem dX10_add_36 : decode cX10_add 36 = .ok (.getfield 15, 3) := by decide +kernel
theorem dX10_add_39 : decode cX10_add 39 = .ok (.aload_n 0, 1) := by decide +kernel
theorem dX10_add_40 : decode cX10_add 40 = .ok (.getfield 21, 3) := by decide +kernel
theorem dX10_add_43 : decode cX10_add 43 = .ok (.iload_n 3, 1) := by decide +kernel
theorem dX10_add_44 : decode cX10_add 44 = .ok (.invokestatic 29, 3) := by decide +kernel
theorem dX10_add_47 : decode cX10_add 47 = .ok (.aload_n 0, 1) := by decide +kernel
theorem dX10_add_48 : decode cX10_add 48 = .ok (.getfield 18, 3) := by decide +kernel
theorem dX10_add_51 : decode cX10_add 51 = .ok (.aload_n 0, 1) := by decide +kernel
theorem dX10_add_52 : decode cX10_add 52 = .ok (.getfield 21, 3) := by decide +kernel
theorem dX10_add_55 : decode cX10_add 55 = .ok (.iload 4, 2) := by decide +kernel
theorem dX10_add_57 : decode cX10_add 57 = .ok (.invokestatic 29, 3) := by decide +kernel
theorem dX10_add_60 : decode cX10_add 60 = .ok (.aload_n 0, 1) := by decide +kernel
theorem dX10_add_61 : decode cX10_add 61 = .ok (.dup, 1) := by decide +kernel
theorem dX10_add_62 : decode cX10_add 62 = .ok (.getfield 21, 3) := by decide +kernel
theorem dX10_add_65 : decode cX10_add 65 = .ok (.iconst 1, 1) := by decide +kernel
theorem dX10_add_66 : decode cX10_add 66 = .ok (.iadd, 1) := by decide +kernel
theorem dX10_add_67 : decode cX10_add 67 = .ok (.putfield 21, 3) := by decide +kernel
theorem dX10_add_70 : decode cX10_add 70 = .ok (.return_, 1) := by decide +kernel
theorem q1_10 : Cond.initialized RX10 ∈ TT := tq1 10 rfl rfl
theorem q1_166 : Cond.fieldLink RX10 9 "RhymeLaw$Words" "sounds" "[I" ∈ TT := tq1 166 rfl rfl
theorem q1_167 : Cond.fieldLink RX10 15 "RhymeLaw$Words" "meanings" "[I" ∈ TT := tq1 167 rfl rfl
theorem q1_168 : Cond.fieldLink RX10 18 "RhymeLaw$Words" "syllables" "[I" ∈ TT := tq1 168 rfl rfl
theorem q2_155 : Cond.instanceMethod yX10_isFull ∈ TT := tq2 155 rfl rfl
theorem q2_156 : Cond.selects RX10 yX10_isFull yX10_isFull ∈ TT := tq2 156 rfl rfl
theorem q2_157 : Cond.code yX10_isFull cX10_isFull 1 (some .boolean) ∈ TT := tq2 157 rfl rfl
theorem q2_176 : Cond.methodLink RX10 25 yX10_isFull ∈ TT := tq2 176 rfl rfl
theorem q2_177 : Cond.methodLink RX10 29 yX6_set ∈ TT := tq2 177 rfl rfl
theorem lk_RX10_25 : vlk RX10 25 yX10_isFull cX10_isFull 1 (some .boolean) 0 := ⟨List.forall_mem_cons.mpr ⟨q2_176, List.forall_mem_cons.mpr ⟨q2_155, List.forall_mem_cons.mpr ⟨q2_156, List.forall_mem_cons.mpr ⟨q1_10, fun _ h => absurd h List.not_mem_nil⟩⟩⟩⟩, q2_157, by decide, by decide, by decide +kernel⟩
theorem fg_RX10_9 {p : Program} {l : Launch} {e : Env} {R : Room} {s : State} {m : MethodId} {args : Array Value} {below : List Frame} {meth : Method} {c : Code} {D : va_G} {tys : List (ClassId × FieldType)} {A : Nat → Prop} {nL : Nat} {Q : State → Prop} {cc : ByteArray} {ws : va_W} {L : List (Nat × Value)} {pc : Nat} {stk : List Value} (cx : gX p s m args meth c cc nL RX10 D tys A) {a : Nat} {fs : List Value} {v : Value} (q0 : Nat) (he : ws[q0]? = some (a, .inr (8, fs))) (hv : fs[0]? = some v) (hd : decode cc pc = .ok (.getfield 9, 3)) (kk : gW p l e R s m args below meth c D A nL Q ws L (pc + 3) (v :: stk)) : gW p l e R s m args below meth c D A nL Q ws L pc (.ref a :: stk) :=
  g_get cx (C := RX10) (T := TX10) (N := 4) inT10 rfl 0 (Nat.le_of_ble_eq_true rfl) q1_166 rfl q0 he hv hd kk
theorem lk_RX10_29 : slk RX10 29 yX6_set cX6_set 3 none 3 := ⟨List.forall_mem_cons.mpr ⟨q2_177, List.forall_mem_cons.mpr ⟨q2_178, List.forall_mem_cons.mpr ⟨q1_19, fun _ h => absurd h List.not_mem_nil⟩⟩⟩, q2_179, by decide, by decide, by decide +kernel⟩
theorem fg_RX10_15 {p : Program} {l : Launch} {e : Env} {R : Room} {s : State} {m : MethodId} {args : Array Value} {below : List Frame} {meth : Method} {c : Code} {D : va_G} {tys : List (ClassId × FieldType)} {A : Nat → Prop} {nL : Nat} {Q : State → Prop} {cc : ByteArray} {ws : va_W} {L : List (Nat × Value)} {pc : Nat} {stk : List Value} (cx : gX p s m args meth c cc nL RX10 D tys A) {a : Nat} {fs : List Value} {v : Value} (q0 : Nat) (he : ws[q0]? = some (a, .inr (8, fs))) (hv : fs[1]? = some v) (hd : decode cc pc = .ok (.getfield 15, 3)) (kk : gW p l e R s m args below meth c D A nL Q ws L (pc + 3) (v :: stk)) : gW p l e R s m args below meth c D A nL Q ws L pc (.ref a :: stk) :=
  g_get cx (C := RX10) (T := TX10) (N := 4) inT10 rfl 1 (Nat.le_of_ble_eq_true rfl) q1_167 rfl q0 he hv hd kk
theorem fg_RX10_18 {p : Program} {l : Launch} {e : Env} {R : Room} {s : State} {m : MethodId} {args : Array Value} {below : List Frame} {meth : Method} {c : Code} {D : va_G} {tys : List (ClassId × FieldType)} {A : Nat → Prop} {nL : Nat} {Q : State → Prop} {cc : ByteArray} {ws : va_W} {L : List (Nat × Value)} {pc : Nat} {stk : List Value} (cx : gX p s m args meth c cc nL RX10 D tys A) {a : Nat} {fs : List Value} {v : Value} (q0 : Nat) (he : ws[q0]? = some (a, .inr (8, fs))) (hv : fs[2]? = some v) (hd : decode cc pc = .ok (.getfield 18, 3)) (kk : gW p l e R s m args below meth c D A nL Q ws L (pc + 3) (v :: stk)) : gW p l e R s m args below meth c D A nL Q ws L pc (.ref a :: stk) :=
  g_get cx (C := RX10) (T := TX10) (N := 4) inT10 rfl 2 (Nat.le_of_ble_eq_true rfl) q1_168 rfl q0 he hv hd kk
def F_X10_add (s_o : S10) (x1 : Int32) (x2 : Int32) (x3 : Int32) (x4 : Int32) : Option (S10) := (F_X10_isFull s_o).bind fun q_1 => (if q_1 = 0 then (F_X6_set 48 (s10_sounds s_o) (s10_size s_o) x1).bind fun q_2 => (F_X6_set 48 (s10_sounds (u10_sounds s_o q_2)) (16 + (s10_size (u10_sounds s_o q_2))) x2).bind fun q_3 => (F_X6_set 16 (s10_meanings (u10_sounds (u10_sounds s_o q_2) q_3)) (s10_size (u10_sounds (u10_sounds s_o q_2) q_3)) x3).bind fun q_4 => (F_X6_set 16 (s10_syllables (u10_meanings (u10_sounds (u10_sounds s_o q_2) q_3) q_4)) (s10_size (u10_meanings (u10_sounds (u10_sounds s_o q_2) q_3) q_4)) x4).bind fun q_5 => nm (u10_size (u10_syllables (u10_meanings (u10_sounds (u10_sounds s_o q_2) q_3) q_4) q_5) ((s10_size (u10_syllables (u10_meanings (u10_sounds (u10_sounds s_o q_2) q_3) q_4) q_5)) + 1)) fun s_o_6 => some (s_o_6) else some (s_o))
def w_X10_add (o : Nat → Nat) (cB cI cJ cZ : ClassId) (s_o : S10) : va_W := [(o 0, .inr (8, [.ref (o 1), .ref (o 2), .ref (o 3), .int (s10_size s_o)])), (o 1, .inl (cI, 48, .inl (s10_sounds s_o))), (o 2, .inl (cI, 16, .inl (s10_meanings s_o))), (o 3, .inl (cI, 16, .inl (s10_syllables s_o)))]
abbrev rm_X10_add : Room := { frames := 1, cells := 0, slots := 0, locals := 22 }
set_option maxHeartbeats 4000000 in
set_option maxRecDepth 100000 in
theorem c_X10_add (l : Launch) (D : va_G) (cB cI cJ cZ : ClassId) (o : Nat → Nat) (s_o : S10) (x1 : Int32) (x2 : Int32) (x3 : Int32) (x4 : Int32) (r : S10) (hf : F_X10_add s_o x1 x2 x3 x4 = some r) : gM l D (tyL cB cI cJ cZ) yX10_add cX10_add 5 none rm_X10_add [.ref (o 0), .int x1, .int x2, .int x3, .int x4] (w_X10_add o cB cI cJ cZ s_o) none (w_X10_add o cB cI cJ cZ r) := by
  refine met_of (by decide) (Nat.le_of_ble_eq_true rfl) ?_
  intro p e s m args below meth c A cx hr hA
  show gW p l e rm_X10_add s m args below meth c D A 5 _ _ [(0, .ref (o 0)), (1, .int x1), (2, .int x2), (3, .int x3), (4, .int x4)] 0 []
  rw [F_X10_add] at hf
  refine g_aln cx 0 dX10_add_0 rfl ?_
  refine ob hf (fun q_1 hq_1 hf => ?_)
  refine g_callViR cx lk_RX10_25 (c_X10_isFull l D cB cI cJ cZ o s_o q_1 hq_1) rfl [0, 1, 2, 3] rfl rfl (ci := 8) (q1 := 0) rfl rfl rfl (Nat.le_of_ble_eq_true rfl) ⟨rfl, rfl, Nat.le_of_ble_eq_true rfl, Nat.le_of_ble_eq_true rfl⟩ dX10_add_1 ?_
  refine g_if_eq (tgt := 8) cx hf dX10_add_4 rfl (fun hf => ?_) (fun hf => ?_)
  · refine g_aln cx 0 dX10_add_8 rfl ?_
    refine fg_RX10_9 cx 0 rfl rfl dX10_add_9 ?_
    refine g_aln cx 0 dX10_add_12 rfl ?_
    refine fg_RX10_21 cx 0 rfl rfl dX10_add_13 ?_
    refine g_iln cx 1 dX10_add_16 rfl ?_
    refine ob hf (fun q_2 hq_2 hf => ?_)
    refine g_callSv cx lk_RX10_29 (c_X6_set l D cB cI cJ cZ (o 1) 48 (s10_sounds s_o) (s10_size s_o) x1 q_2 hq_2) rfl [1] rfl rfl (ws' := (w_X10_add o cB cI cJ cZ (u10_sounds s_o q_2))) rfl rfl rfl (Nat.le_of_ble_eq_true rfl) ⟨rfl, rfl, Nat.le_of_ble_eq_true rfl, Nat.le_of_ble_eq_true rfl⟩ dX10_add_17 ?_
    refine g_aln cx 0 dX10_add_20 rfl ?_
    refine fg_RX10_9 cx 0 rfl rfl dX10_add_21 ?_
    refine g_bp cx dX10_add_24 k_bp16 ?_
    refine g_aln cx 0 dX10_add_26 rfl ?_
    refine fg_RX10_21 cx 0 rfl rfl dX10_add_27 ?_
    refine g_iadd cx dX10_add_30 ?_
    refine g_iln cx 2 dX10_add_31 rfl ?_
    refine ob hf (fun q_3 hq_3 hf => ?_)
    refine g_callSv cx lk_RX10_29 (c_X6_set l D cB cI cJ cZ (o 1) 48 (s10_sounds (u10_sounds s_o q_2)) (16 + (s10_size (u10_sounds s_o q_2))) x2 q_3 hq_3) rfl [1] rfl rfl (ws' := (w_X10_add o cB cI cJ cZ (u10_sounds (u10_sounds s_o q_2) q_3))) rfl rfl rfl (Nat.le_of_ble_eq_true rfl) ⟨rfl, rfl, Nat.le_of_ble_eq_true rfl, Nat.le_of_ble_eq_true rfl⟩ dX10_add_32 ?_
    refine g_aln cx 0 dX10_add_35 rfl ?_
    refine fg_RX10_15 cx 0 rfl rfl dX10_add_36 ?_
    refine g_aln cx 0 dX10_add_39 rfl ?_
    refine fg_RX10_21 cx 0 rfl rfl dX10_add_40 ?_
    refine g_iln cx 3 dX10_add_43 rfl ?_
    refine ob hf (fun q_4 hq_4 hf => ?_)
    refine g_callSv cx lk_RX10_29 (c_X6_set l D cB cI cJ cZ (o 2) 16 (s10_meanings (u10_sounds (u10_sounds s_o q_2) q_3)) (s10_size (u10_sounds (u10_sounds s_o q_2) q_3)) x3 q_4 hq_4) rfl [2] rfl rfl (ws' := (w_X10_add o cB cI cJ cZ (u10_meanings (u10_sounds (u10_sounds s_o q_2) q_3) q_4))) rfl rfl rfl (Nat.le_of_ble_eq_true rfl) ⟨rfl, rfl, Nat.le_of_ble_eq_true rfl, Nat.le_of_ble_eq_true rfl⟩ dX10_add_44 ?_
    refine g_aln cx 0 dX10_add_47 rfl ?_
    refine fg_RX10_18 cx 0 rfl rfl dX10_add_48 ?_
    refine g_aln cx 0 dX10_add_51 rfl ?_
    refine fg_RX10_21 cx 0 rfl rfl dX10_add_52 ?_
    refine g_il cx 4 dX10_add_55 rfl ?_
    refine ob hf (fun q_5 hq_5 hf => ?_)
    refine g_callSv cx lk_RX10_29 (c_X6_set l D cB cI cJ cZ (o 3) 16 (s10_syllables (u10_meanings (u10_sounds (u10_sounds s_o q_2) q_3) q_4)) (s10_size (u10_meanings (u10_sounds (u10_sounds s_o q_2) q_3) q_4)) x4 q_5 hq_5) rfl [3] rfl rfl (ws' := (w_X10_add o cB cI cJ cZ (u10_syllables (u10_meanings (u10_sounds (u10_sounds s_o q_2) q_3) q_4) q_5))) rfl rfl rfl (Nat.le_of_ble_eq_true rfl) ⟨rfl, rfl, Nat.le_of_ble_eq_true rfl, Nat.le_of_ble_eq_true rfl⟩ dX10_add_57 ?_
    refine g_aln cx 0 dX10_add_60 rfl ?_
    refine g_dup cx dX10_add_61 rfl ?_
    refine fg_RX10_21 cx 0 rfl rfl dX10_add_62 ?_
    refine g_ic cx dX10_add_65 k_ic1 ?_
    refine g_iadd cx dX10_add_66 ?_
    refine fp_RX10_21 cx 0 rfl (Nat.le_of_ble_eq_true rfl) (ws' := (w_X10_add o cB cI cJ cZ (u10_size (u10_syllables (u10_meanings (u10_sounds (u10_sounds s_o q_2) q_3) q_4) q_5) ((s10_size (u10_syllables (u10_meanings (u10_sounds (u10_sounds s_o q_2) q_3) q_4) q_5)) + 1)))) rfl dX10_add_67 ?_
    refine g_nm (w := fun s_o_6 => (w_X10_add o cB cI cJ cZ s_o_6)) hf (fun s_o_6 hf => ?_)
    exact g_vret (ovf := fun (r : S10) => none) (wf := fun (r : S10) => (w_X10_add o cB cI cJ cZ r)) cx hA hr hf rfl rfl dX10_add_70
  · exact g_vret (ovf := fun (r : S10) => none) (wf := fun (r : S10) => (w_X10_add o cB cI cJ cZ r)) cx hA hr hf rfl rfl dX10_add_7
theorem dX10_sound_0 : decode cX10_sound 0 = .ok (.aload_n 0, 1) := by decide +kernel
theorem dX10_sound_1 : decode cX10_sound 1 = .ok (.getfield 9, 3) := by decide +kernel
theorem dX10_sound_4 : decode cX10_sound 4 = .ok (.iload_n 1, 1) := by decide +kernel
theorem dX10_sound_5 : decode cX10_sound 5 = .ok (.bipush 16, 2) := by decide +kernel
theorem dX10_sound_7 : decode cX10_sound 7 = .ok (.imul, 1) := by decide +kernel
theorem dX10_sound_8 : decode cX10_sound 8 = .ok (.iload_n 2, 1) := by decide +kernel
theorem dX10_sound_9 : decode cX10_sound 9 = .ok (.iadd, 1) := by decide +kernel
theorem dX10_sound_10 : decode cX10_sound 10 = .ok (.invokestatic 35, 3) := by decide +kernel
theorem dX10_sound_13 : decode cX10_sound 13 = .ok (.ireturn, 1) := by decide +kernel
theorem q3_35 : Cond.methodLink RX10 35 yX6_at ∈ TT := tq3 35 rfl rfl
theorem lk_RX10_35 : slk RX10 35 yX6_at cX6_at 2 (some .int) 2 := ⟨List.forall_mem_cons.mpr ⟨q3_35, List.forall_mem_cons.mpr ⟨q2_207, List.forall_mem_cons.mpr ⟨q1_19, fun _ h => absurd h List.not_mem_nil⟩⟩⟩, q2_208, by decide, by decide, by decide +kernel⟩
def F_X10_sound (s_o : S10) (x1 : Int32) (x2 : Int32) : Option (Int32) := (F_X6_at 48 (s10_sounds s_o) ((x1 * 16) + x2)).bind fun q_1 => some (q_1)
def w_X10_sound (o : Nat → Nat) (cB cI cJ cZ : ClassId) (s_o : S10) : va_W := [(o 0, .inr (8, [.ref (o 1), .ref (o 2), .ref (o 3), .int (s10_size s_o)])), (o 1, .inl (cI, 48, .inl (s10_sounds s_o))), (o 2, .inl (cI, 16, .inl (s10_meanings s_o))), (o 3, .inl (cI, 16, .inl (s10_syllables s_o)))]
abbrev rm_X10_sound : Room := { frames := 1, cells := 0, slots := 0, locals := 21 }
set_option maxHeartbeats 4000000 in
set_option maxRecDepth 100000 in
theorem c_X10_sound (l : Launch) (D : va_G) (cB cI cJ cZ : ClassId) (o : Nat → Nat) (s_o : S10) (x1 : Int32) (x2 : Int32) (r : Int32) (hf : F_X10_sound s_o x1 x2 = some r) : gM l D (tyL cB cI cJ cZ) yX10_sound cX10_sound 3 (some .int) rm_X10_sound [.ref (o 0), .int x1, .int x2] (w_X10_sound o cB cI cJ cZ s_o) (some (.int r)) (w_X10_sound o cB cI cJ cZ s_o) := by
  refine met_of (by decide) (Nat.le_of_ble_eq_true rfl) ?_
  intro p e s m args below meth c A cx hr hA
  show gW p l e rm_X10_sound s m args below meth c D A 3 _ _ [(0, .ref (o 0)), (1, .int x1), (2, .int x2)] 0 []
  rw [F_X10_sound] at hf
  refine g_aln cx 0 dX10_sound_0 rfl ?_
  refine fg_RX10_9 cx 0 rfl rfl dX10_sound_1 ?_
  refine g_iln cx 1 dX10_sound_4 rfl ?_
  refine g_bp cx dX10_sound_5 k_bp16 ?_
  refine g_imul cx dX10_sound_7 ?_
  refine g_iln cx 2 dX10_sound_8 rfl ?_
  refine g_iadd cx dX10_sound_9 ?_
  refine ob hf (fun q_1 hq_1 hf => ?_)
  refine g_callSiR cx lk_RX10_35 (c_X6_at l D cB cI cJ cZ (o 1) 48 (s10_sounds s_o) ((x1 * 16) + x2) q_1 hq_1) rfl [1] rfl rfl rfl (Nat.le_of_ble_eq_true rfl) ⟨rfl, rfl, Nat.le_of_ble_eq_true rfl, Nat.le_of_ble_eq_true rfl⟩ dX10_sound_10 ?_
  exact g_iret (ovf := fun (r : Int32) => (some (.int r))) (wf := fun (r : Int32) => (w_X10_sound o cB cI cJ cZ s_o)) cx hA hr hf rfl rfl dX10_sound_13
theorem dX10_meaning_0 : decode cX10_meaning 0 = .ok (.aload_n 0, 1) := by decide +kernel
theorem dX10_meaning_1 : decode cX10_meaning 1 = .ok (.getfield 15, 3) := by decide +kernel
theorem dX10_meaning_4 : decode cX10_meaning 4 = .ok (.iload_n 1, 1) := by decide +kernel
theorem dX10_meaning_5 : decode cX10_meaning 5 = .ok (.invokestatic 35, 3) := by decide +kernel
theorem dX10_meaning_8 : decode cX10_meaning 8 = .ok (.ireturn, 1) := by decide +kernel


def F_X10_meaning (s_o : S10) (x1 : Int32) : Option (Int32) := (F_X6_at 16 (s10_meanings s_o) x1).bind fun q_1 => some (q_1)
def w_X10_meaning (o : Nat → Nat) (cB cI cJ cZ : ClassId) (s_o : S10) : va_W := [(o 0, .inr (8, [.ref (o 1), .ref (o 2), .ref (o 3), .int (s10_size s_o)])), (o 1, .inl (cI, 48, .inl (s10_sounds s_o))), (o 2, .inl (cI, 16, .inl (s10_meanings s_o))), (o 3, .inl (cI, 16, .inl (s10_syllables s_o)))]
abbrev rm_X10_meaning : Room := { frames := 1, cells := 0, slots := 0, locals := 21 }
set_option maxHeartbeats 4000000 in
set_option maxRecDepth 100000 in
theorem c_X10_meaning (l : Launch) (D : va_G) (cB cI cJ cZ : ClassId) (o : Nat → Nat) (s_o : S10) (x1 : Int32) (r : Int32) (hf : F_X10_meaning s_o x1 = some r) : gM l D (tyL cB cI cJ cZ) yX10_meaning cX10_meaning 2 (some .int) rm_X10_meaning [.ref (o 0), .int x1] (w_X10_meaning o cB cI cJ cZ s_o) (some (.int r)) (w_X10_meaning o cB cI cJ cZ s_o) := by
  refine met_of (by decide) (Nat.le_of_ble_eq_true rfl) ?_
  intro p e s m args below meth c A cx hr hA
  show gW p l e rm_X10_meaning s m args below meth c D A 2 _ _ [(0, .ref (o 0)), (1, .int x1)] 0 []
  rw [F_X10_meaning] at hf
  refine g_aln cx 0 dX10_meaning_0 rfl ?_
  refine fg_RX10_15 cx 0 rfl rfl dX10_meaning_1 ?_
  refine g_iln cx 1 dX10_meaning_4 rfl ?_
  refine ob hf (fun q_1 hq_1 hf => ?_)
  refine g_callSiR cx lk_RX10_35 (c_X6_at l D cB cI cJ cZ (o 2) 16 (s10_meanings s_o) x1 q_1 hq_1) rfl [2] rfl rfl rfl (Nat.le_of_ble_eq_true rfl) ⟨rfl, rfl, Nat.le_of_ble_eq_true rfl, Nat.le_of_ble_eq_true rfl⟩ dX10_meaning_5 ?_
  exact g_iret (ovf := fun (r : Int32) => (some (.int r))) (wf := fun (r : Int32) => (w_X10_meaning o cB cI cJ cZ s_o)) cx hA hr hf rfl rfl dX10_meaning_8
theorem dX10_syllables_0 : decode cX10_syllables 0 = .ok (.aload_n 0, 1) := by decide +kernel
theorem dX10_syllables_1 : decode cX10_syllables 1 = .ok (.getfield 18, 3) := by decide +kernel
theorem dX10_syllables_4 : decode cX10_syllables 4 = .ok (.iload_n 1, 1) := by decide +kernel
theorem dX10_syllables_5 : decode cX10_syllables 5 = .ok (.invokestatic 35, 3) := by decide +kernel
theorem dX10_syllables_8 : decode cX10_syllables 8 = .ok (.ireturn, 1) := by decide +kernel


def F_X10_syllables (s_o : S10) (x1 : Int32) : Option (Int32) := (F_X6_at 16 (s10_syllables s_o) x1).bind fun q_1 => some (q_1)
def w_X10_syllables (o : Nat → Nat) (cB cI cJ cZ : ClassId) (s_o : S10) : va_W := [(o 0, .inr (8, [.ref (o 1), .ref (o 2), .ref (o 3), .int (s10_size s_o)])), (o 1, .inl (cI, 48, .inl (s10_sounds s_o))), (o 2, .inl (cI, 16, .inl (s10_meanings s_o))), (o 3, .inl (cI, 16, .inl (s10_syllables s_o)))]
abbrev rm_X10_syllables : Room := { frames := 1, cells := 0, slots := 0, locals := 21 }
set_option maxHeartbeats 4000000 in
set_option maxRecDepth 100000 in
theorem c_X10_syllables (l : Launch) (D : va_G) (cB cI cJ cZ : ClassId) (o : Nat → Nat) (s_o : S10) (x1 : Int32) (r : Int32) (hf : F_X10_syllables s_o x1 = some r) : gM l D (tyL cB cI cJ cZ) yX10_syllables cX10_syllables 2 (some .int) rm_X10_syllables [.ref (o 0), .int x1] (w_X10_syllables o cB cI cJ cZ s_o) (some (.int r)) (w_X10_syllables o cB cI cJ cZ s_o) := by
  refine met_of (by decide) (Nat.le_of_ble_eq_true rfl) ?_
  intro p e s m args below meth c A cx hr hA
  show gW p l e rm_X10_syllables s m args below meth c D A 2 _ _ [(0, .ref (o 0)), (1, .int x1)] 0 []
  rw [F_X10_syllables] at hf
  refine g_aln cx 0 dX10_syllables_0 rfl ?_
  refine fg_RX10_18 cx 0 rfl rfl dX10_syllables_1 ?_
  refine g_iln cx 1 dX10_syllables_4 rfl ?_
  refine ob hf (fun q_1 hq_1 hf => ?_)
  refine g_callSiR cx lk_RX10_35 (c_X6_at l D cB cI cJ cZ (o 3) 16 (s10_syllables s_o) x1 q_1 hq_1) rfl [3] rfl rfl rfl (Nat.le_of_ble_eq_true rfl) ⟨rfl, rfl, Nat.le_of_ble_eq_true rfl, Nat.le_of_ble_eq_true rfl⟩ dX10_syllables_5 ?_
  exact g_iret (ovf := fun (r : Int32) => (some (.int r))) (wf := fun (r : Int32) => (w_X10_syllables o cB cI cJ cZ s_o)) cx hA hr hf rfl rfl dX10_syllables_8
theorem dX10_rhyme_0 : decode cX10_rhyme 0 = .ok (.iload_n 2, 1) := by decide +kernel
theorem dX10_rhyme_1 : decode cX10_rhyme 1 = .ok (.iload_n 3, 1) := by decide +kernel
theorem dX10_rhyme_2 : decode cX10_rhyme 2 = .ok (.if_icmp .eq 22, 3) := by decide +kernel
theorem dX10_rhyme_5 : decode cX10_rhyme 5 = .ok (.aload_n 0, 1) := by decide +kernel
theorem dX10_rhyme_6 : decode cX10_rhyme 6 = .ok (.iload_n 1, 1) := by decide +kernel
theorem dX10_rhyme_7 : decode cX10_rhyme 7 = .ok (.iload_n 2, 1) := by decide +kernel
theorem dX10_rhyme_8 : decode cX10_rhyme 8 = .ok (.invokevirtual 39, 3) := by decide +kernel
theorem dX10_rhyme_11 : decode cX10_rhyme 11 = .ok (.aload_n 0, 1) := by decide +kernel
theorem dX10_rhyme_12 : decode cX10_rhyme 12 = .ok (.iload_n 1, 1) := by decide +kernel
theorem dX10_rhyme_13 : decode cX10_rhyme 13 = .ok (.iload_n 3, 1) := by decide +kernel
theorem dX10_rhyme_14 : decode cX10_rhyme 14 = .ok (.invokevirtual 39, 3) := by decide +kernel
theorem dX10_rhyme_17 : decode cX10_rhyme 17 = .ok (.if_icmp .ne 7, 3) := by decide +kernel
theorem dX10_rhyme_20 : decode cX10_rhyme 20 = .ok (.iconst 1, 1) := by decide +kernel
theorem dX10_rhyme_21 : decode cX10_rhyme 21 = .ok (.goto 4, 3) := by decide +kernel
theorem dX10_rhyme_24 : decode cX10_rhyme 24 = .ok (.iconst 0, 1) := by decide +kernel
theorem dX10_rhyme_25 : decode cX10_rhyme 25 = .ok (.ireturn, 1) := by decide +kernel
theorem q3_32 : Cond.instanceMethod yX10_sound ∈ TT := tq3 32 rfl rfl
theorem q3_33 : Cond.selects RX10 yX10_sound yX10_sound ∈ TT := tq3 33 rfl rfl
theorem q3_34 : Cond.code yX10_sound cX10_sound 3 (some .int) ∈ TT := tq3 34 rfl rfl
theorem q3_139 : Cond.methodLink RX10 39 yX10_sound ∈ TT := tq3 139 rfl rfl
theorem lk_RX10_39 : vlk RX10 39 yX10_sound cX10_sound 3 (some .int) 2 := ⟨List.forall_mem_cons.mpr ⟨q3_139, List.forall_mem_cons.mpr ⟨q3_32, List.forall_mem_cons.mpr ⟨q3_33, List.forall_mem_cons.mpr ⟨q1_10, fun _ h => absurd h List.not_mem_nil⟩⟩⟩⟩, q3_34, by decide, by decide, by decide +kernel⟩
def F_X10_rhyme (s_o : S10) (x1 : Int32) (x2 : Int32) (x3 : Int32) : Option (Int32) := (if x2 = x3 then some (0) else (F_X10_sound s_o x1 x2).bind fun q_1 => (F_X10_sound s_o x1 x3).bind fun q_2 => (if q_1 = q_2 then some (1) else some (0)))
def w_X10_rhyme (o : Nat → Nat) (cB cI cJ cZ : ClassId) (s_o : S10) : va_W := [(o 0, .inr (8, [.ref (o 1), .ref (o 2), .ref (o 3), .int (s10_size s_o)])), (o 1, .inl (cI, 48, .inl (s10_sounds s_o))), (o 2, .inl (cI, 16, .inl (s10_meanings s_o))), (o 3, .inl (cI, 16, .inl (s10_syllables s_o)))]
abbrev rm_X10_rhyme : Room := { frames := 2, cells := 0, slots := 0, locals := 43 }
set_option maxHeartbeats 4000000 in
set_option maxRecDepth 100000 in
theorem c_X10_rhyme (l : Launch) (D : va_G) (cB cI cJ cZ : ClassId) (o : Nat → Nat) (s_o : S10) (x1 : Int32) (x2 : Int32) (x3 : Int32) (r : Int32) (hf : F_X10_rhyme s_o x1 x2 x3 = some r) : gM l D (tyL cB cI cJ cZ) yX10_rhyme cX10_rhyme 4 (some .boolean) rm_X10_rhyme [.ref (o 0), .int x1, .int x2, .int x3] (w_X10_rhyme o cB cI cJ cZ s_o) (some (.int r)) (w_X10_rhyme o cB cI cJ cZ s_o) := by
  refine met_of (by decide) (Nat.le_of_ble_eq_true rfl) ?_
  intro p e s m args below meth c A cx hr hA
  show gW p l e rm_X10_rhyme s m args below meth c D A 4 _ _ [(0, .ref (o 0)), (1, .int x1), (2, .int x2), (3, .int x3)] 0 []
  rw [F_X10_rhyme] at hf
  refine g_iln cx 2 dX10_rhyme_0 rfl ?_
  refine g_iln cx 3 dX10_rhyme_1 rfl ?_
  refine g_ic_eq (tgt := 24) cx hf dX10_rhyme_2 rfl (fun hf => ?_) (fun hf => ?_)
  · refine g_ic cx dX10_rhyme_24 k_ic0 ?_
    exact g_zret (ovf := fun (r : Int32) => (some (.int r))) (wf := fun (r : Int32) => (w_X10_rhyme o cB cI cJ cZ s_o)) cx hA hr rfl hf rfl rfl dX10_rhyme_25
  · refine g_aln cx 0 dX10_rhyme_5 rfl ?_
    refine g_iln cx 1 dX10_rhyme_6 rfl ?_
    refine g_iln cx 2 dX10_rhyme_7 rfl ?_
    refine ob hf (fun q_1 hq_1 hf => ?_)
    refine g_callViR cx lk_RX10_39 (c_X10_sound l D cB cI cJ cZ o s_o x1 x2 q_1 hq_1) rfl [0, 1, 2, 3] rfl rfl (ci := 8) (q1 := 0) rfl rfl rfl (Nat.le_of_ble_eq_true rfl) ⟨rfl, rfl, Nat.le_of_ble_eq_true rfl, Nat.le_of_ble_eq_true rfl⟩ dX10_rhyme_8 ?_
    refine g_aln cx 0 dX10_rhyme_11 rfl ?_
    refine g_iln cx 1 dX10_rhyme_12 rfl ?_
    refine g_iln cx 3 dX10_rhyme_13 rfl ?_
    refine ob hf (fun q_2 hq_2 hf => ?_)
    refine g_callViR cx lk_RX10_39 (c_X10_sound l D cB cI cJ cZ o s_o x1 x3 q_2 hq_2) rfl [0, 1, 2, 3] rfl rfl (ci := 8) (q1 := 0) rfl rfl rfl (Nat.le_of_ble_eq_true rfl) ⟨rfl, rfl, Nat.le_of_ble_eq_true rfl, Nat.le_of_ble_eq_true rfl⟩ dX10_rhyme_14 ?_
    refine g_ic_ne (tgt := 24) cx hf dX10_rhyme_17 rfl (fun hf => ?_) (fun hf => ?_)
    · refine g_ic cx dX10_rhyme_24 k_ic0 ?_
      exact g_zret (ovf := fun (r : Int32) => (some (.int r))) (wf := fun (r : Int32) => (w_X10_rhyme o cB cI cJ cZ s_o)) cx hA hr rfl hf rfl rfl dX10_rhyme_25
    · refine g_ic cx dX10_rhyme_20 k_ic1 ?_
      refine g_goto (tgt := 25) cx dX10_rhyme_21 rfl ?_
      exact g_zret (ovf := fun (r : Int32) => (some (.int r))) (wf := fun (r : Int32) => (w_X10_rhyme o cB cI cJ cZ s_o)) cx hA hr rfl hf rfl rfl dX10_rhyme_25
theorem dX10_mix_0 : decode cX10_mix 0 = .ok (.iconst 0, 1) := by decide +kernel
theorem dX10_mix_1 : decode cX10_mix 1 = .ok (.istore_n 2, 1) := by decide +kernel
theorem dX10_mix_2 : decode cX10_mix 2 = .ok (.iload_n 2, 1) := by decide +kernel
theorem dX10_mix_3 : decode cX10_mix 3 = .ok (.aload_n 0, 1) := by decide +kernel
theorem dX10_mix_4 : decode cX10_mix 4 = .ok (.getfield 21, 3) := by decide +kernel
theorem dX10_mix_7 : decode cX10_mix 7 = .ok (.if_icmp .ge 35, 3) := by decide +kernel
theorem dX10_mix_10 : decode cX10_mix 10 = .ok (.aload_n 0, 1) := by decide +kernel
theorem dX10_mix_11 : decode cX10_mix 11 = .ok (.getfield 9, 3) := by decide +kernel
theorem dX10_mix_14 : decode cX10_mix 14 = .ok (.bipush 32, 2) := by decide +kernel
theorem dX10_mix_16 : decode cX10_mix 16 = .ok (.iload_n 2, 1) := by decide +kernel
theorem dX10_mix_17 : decode cX10_mix 17 = .ok (.iadd, 1) := by decide +kernel
theorem dX10_mix_18 : decode cX10_mix 18 = .ok (.aload_n 0, 1) := by decide +kernel
theorem dX10_mix_19 : decode cX10_mix 19 = .ok (.iload_n 2, 1) := by decide +kernel
theorem dX10_mix_20 : decode cX10_mix 20 = .ok (.iload_n 1, 1) := by decide +kernel
theorem dX10_mix_21 : decode cX10_mix 21 = .ok (.if_icmp .ne 7, 3) := by decide +kernel
theorem dX10_mix_24 : decode cX10_mix 24 = .ok (.iconst 0, 1) := by decide +kernel
theorem dX10_mix_25 : decode cX10_mix 25 = .ok (.goto 4, 3) := by decide +kernel
theorem dX10_mix_28 : decode cX10_mix 28 = .ok (.iconst 1, 1) := by decide +kernel
theorem dX10_mix_29 : decode cX10_mix 29 = .ok (.iload_n 2, 1) := by decide +kernel
theorem dX10_mix_30 : decode cX10_mix 30 = .ok (.invokevirtual 39, 3) := by decide +kernel
theorem dX10_mix_33 : decode cX10_mix 33 = .ok (.invokestatic 29, 3) := by decide +kernel
theorem dX10_mix_36 : decode cX10_mix 36 = .ok (.iinc 2 1, 3) := by decide +kernel
theorem dX10_mix_39 : decode cX10_mix 39 = .ok (.goto (-37), 3) := by decide +kernel
theorem dX10_mix_42 : decode cX10_mix 42 = .ok (.return_, 1) := by decide +kernel
theorem k_bp32 : (Int8.ofInt (32)).toInt32 = 32 := by decide


def F_X10_mix_b29 (x1 : Int32) (K2 : Int32 → S10 → Option (S10)) (v2 : Int32) (zs_o : S10) (k1 : Int32) (k3 : Int32) : Option (S10) := (F_X10_sound zs_o k3 v2).bind fun q_1 => (F_X6_set 48 (s10_sounds zs_o) k1 q_1).bind fun q_2 => nm (v2 + 1) fun v2_3 => K2 v2_3 (u10_sounds zs_o q_2)
def F_X10_mix_b2 (x1 : Int32) : Nat → Int32 → S10 → Option (S10)
  | 0, _, _ => none
  | n + 1, v2, zs_o => (if (s10_size zs_o) ≤ v2 then some (zs_o) else (if v2 = x1 then F_X10_mix_b29 x1 (F_X10_mix_b2 x1 n) v2 zs_o (32 + v2) 0 else F_X10_mix_b29 x1 (F_X10_mix_b2 x1 n) v2 zs_o (32 + v2) 1))
def F_X10_mix (s_o : S10) (x1 : Int32) : Option (S10) := nm 0 fun v2_4 => F_X10_mix_b2 x1 fu v2_4 s_o
def w_X10_mix (o : Nat → Nat) (cB cI cJ cZ : ClassId) (s_o : S10) : va_W := [(o 0, .inr (8, [.ref (o 1), .ref (o 2), .ref (o 3), .int (s10_size s_o)])), (o 1, .inl (cI, 48, .inl (s10_sounds s_o))), (o 2, .inl (cI, 16, .inl (s10_meanings s_o))), (o 3, .inl (cI, 16, .inl (s10_syllables s_o)))]
abbrev rm_X10_mix : Room := { frames := 2, cells := 0, slots := 0, locals := 43 }
set_option maxHeartbeats 4000000 in
set_option maxRecDepth 100000 in
theorem c_X10_mix (l : Launch) (D : va_G) (cB cI cJ cZ : ClassId) (o : Nat → Nat) (s_o : S10) (x1 : Int32) (r : S10) (hf : F_X10_mix s_o x1 = some r) : gM l D (tyL cB cI cJ cZ) yX10_mix cX10_mix 3 none rm_X10_mix [.ref (o 0), .int x1] (w_X10_mix o cB cI cJ cZ s_o) none (w_X10_mix o cB cI cJ cZ r) := by
  refine met_of (by decide) (Nat.le_of_ble_eq_true rfl) ?_
  intro p e s m args below meth c A cx hr hA
  show gW p l e rm_X10_mix s m args below meth c D A 3 _ _ [(0, .ref (o 0)), (1, .int x1)] 0 []
  have h29 : ∀ (K2 : Int32 → S10 → Option (S10)), (∀ (v2 : Int32) (zs_o : S10), K2 v2 zs_o = some r → gW p l e rm_X10_mix s m args below meth c D A 3 (MQ below (QM D (tyL cB cI cJ cZ) none (w_X10_mix o cB cI cJ cZ s_o) (w_X10_mix o cB cI cJ cZ r) s.heap.size) args s 0 0 A) (w_X10_mix o cB cI cJ cZ zs_o) [(0, .ref (o 0)), (1, .int x1), (2, .int v2)] 2 []) → ∀ (v2 : Int32) (zs_o : S10) (k1 : Int32) (k3 : Int32), F_X10_mix_b29 x1 K2 v2 zs_o k1 k3 = some r → gW p l e rm_X10_mix s m args below meth c D A 3 (MQ below (QM D (tyL cB cI cJ cZ) none (w_X10_mix o cB cI cJ cZ s_o) (w_X10_mix o cB cI cJ cZ r) s.heap.size) args s 0 0 A) (w_X10_mix o cB cI cJ cZ zs_o) [(0, .ref (o 0)), (1, .int x1), (2, .int v2)] 29 [.int k3, .ref (o 0), .int k1, .ref (o 1)] := by
    intro K2 k2 v2 zs_o k1 k3 hf
    rw [F_X10_mix_b29] at hf
    refine g_iln cx 2 dX10_mix_29 rfl ?_
    refine ob hf (fun q_1 hq_1 hf => ?_)
    refine g_callViR cx lk_RX10_39 (c_X10_sound l D cB cI cJ cZ o zs_o k3 v2 q_1 hq_1) rfl [0, 1, 2, 3] rfl rfl (ci := 8) (q1 := 0) rfl rfl rfl (Nat.le_of_ble_eq_true rfl) ⟨rfl, rfl, Nat.le_of_ble_eq_true rfl, Nat.le_of_ble_eq_true rfl⟩ dX10_mix_30 ?_
    refine ob hf (fun q_2 hq_2 hf => ?_)
    refine g_callSv cx lk_RX10_29 (c_X6_set l D cB cI cJ cZ (o 1) 48 (s10_sounds zs_o) k1 q_1 q_2 hq_2) rfl [1] rfl rfl (ws' := (w_X10_mix o cB cI cJ cZ (u10_sounds zs_o q_2))) rfl rfl rfl (Nat.le_of_ble_eq_true rfl) ⟨rfl, rfl, Nat.le_of_ble_eq_true rfl, Nat.le_of_ble_eq_true rfl⟩ dX10_mix_33 ?_
    refine g_inc cx (L2 := fun v2_3 => [(2, .int v2_3), (0, .ref (o 0)), (1, .int x1)]) 2 hf dX10_mix_36 rfl (k_inc1 _) (Nat.le_of_ble_eq_true rfl) (fun _ => rfl) (fun v2_3 hf => ?_)
    refine g_goto (tgt := 2) cx dX10_mix_39 rfl ?_
    refine g_sub [1, 2, 0] rfl ?_
    exact k2 _ _ hf
  have h2 : ∀ (n : Nat) (v2 : Int32) (zs_o : S10), F_X10_mix_b2 x1 n v2 zs_o = some r → gW p l e rm_X10_mix s m args below meth c D A 3 (MQ below (QM D (tyL cB cI cJ cZ) none (w_X10_mix o cB cI cJ cZ s_o) (w_X10_mix o cB cI cJ cZ r) s.heap.size) args s 0 0 A) (w_X10_mix o cB cI cJ cZ zs_o) [(0, .ref (o 0)), (1, .int x1), (2, .int v2)] 2 [] := by
    intro n
    induction n with
    | zero => intro v2 zs_o hf; rw [F_X10_mix_b2] at hf; cases hf
    | succ n ih =>
      intro v2 zs_o hf
      rw [F_X10_mix_b2] at hf
      refine g_iln cx 2 dX10_mix_2 rfl ?_
      refine g_aln cx 0 dX10_mix_3 rfl ?_
      refine fg_RX10_21 cx 0 rfl rfl dX10_mix_4 ?_
      refine g_ic_ge (tgt := 42) cx hf dX10_mix_7 rfl (fun hf => ?_) (fun hf => ?_)
      · exact g_vret (ovf := fun (r : S10) => none) (wf := fun (r : S10) => (w_X10_mix o cB cI cJ cZ r)) cx hA hr hf rfl rfl dX10_mix_42
      · refine g_aln cx 0 dX10_mix_10 rfl ?_
        refine fg_RX10_9 cx 0 rfl rfl dX10_mix_11 ?_
        refine g_bp cx dX10_mix_14 k_bp32 ?_
        refine g_iln cx 2 dX10_mix_16 rfl ?_
        refine g_iadd cx dX10_mix_17 ?_
        refine g_aln cx 0 dX10_mix_18 rfl ?_
        refine g_iln cx 2 dX10_mix_19 rfl ?_
        refine g_iln cx 1 dX10_mix_20 rfl ?_
        refine g_ic_ne (tgt := 28) cx hf dX10_mix_21 rfl (fun hf => ?_) (fun hf => ?_)
        · refine g_ic cx dX10_mix_28 k_ic1 ?_
          exact h29 _ ih _ _ _ _ hf
        · refine g_ic cx dX10_mix_24 k_ic0 ?_
          refine g_goto (tgt := 29) cx dX10_mix_25 rfl ?_
          exact h29 _ ih _ _ _ _ hf
  rw [F_X10_mix] at hf
  refine g_ic cx dX10_mix_0 k_ic0 ?_
  refine g_isn cx (L2 := fun v2_4 => [(2, .int v2_4), (0, .ref (o 0)), (1, .int x1)]) hf dX10_mix_1 (Nat.le_of_ble_eq_true rfl) (fun _ => rfl) (fun v2_4 hf => ?_)
  refine g_sub [1, 2, 0] rfl ?_
  exact h2 fu _ _ hf
theorem dX1_size_0 : decode cX1_size 0 = .ok (.aload_n 0, 1) := by decide +kernel
theorem dX1_size_1 : decode cX1_size 1 = .ok (.getfield 18, 3) := by decide +kernel
theorem dX1_size_4 : decode cX1_size 4 = .ok (.ireturn, 1) := by decide +kernel
theorem q1_187 : Cond.fieldLink RX1 18 "RhymeLaw$Forms" "size" "I" ∈ TT := tq1 187 rfl rfl
theorem fg_RX1_18 {p : Program} {l : Launch} {e : Env} {R : Room} {s : State} {m : MethodId} {args : Array Value} {below : List Frame} {meth : Method} {c : Code} {D : va_G} {tys : List (ClassId × FieldType)} {A : Nat → Prop} {nL : Nat} {Q : State → Prop} {cc : ByteArray} {ws : va_W} {L : List (Nat × Value)} {pc : Nat} {stk : List Value} (cx : gX p s m args meth c cc nL RX1 D tys A) {a : Nat} {fs : List Value} {v : Value} (q0 : Nat) (he : ws[q0]? = some (a, .inr (1, fs))) (hv : fs[2]? = some v) (hd : decode cc pc = .ok (.getfield 18, 3)) (kk : gW p l e R s m args below meth c D A nL Q ws L (pc + 3) (v :: stk)) : gW p l e R s m args below meth c D A nL Q ws L pc (.ref a :: stk) :=
  g_get cx (C := RX1) (T := TX1) (N := 3) inT1 rfl 2 (Nat.le_of_ble_eq_true rfl) q1_187 rfl q0 he hv hd kk
def F_X1_size (s_o : S1) : Option (Int32) := some ((s1_size s_o))
def w_X1_size (o : Nat → Nat) (cB cI cJ cZ : ClassId) (s_o : S1) : va_W := [(o 0, .inr (1, [.ref (o 1), .ref (o 2), .int (s1_size s_o)])), (o 1, .inl (cI, 16, .inl (s1_letters s_o))), (o 2, .inl (cI, 2, .inl (s1_lengths s_o)))]
abbrev rm_X1_size : Room := { frames := 0, cells := 0, slots := 0, locals := 0 }
set_option maxHeartbeats 4000000 in
set_option maxRecDepth 100000 in
theorem c_X1_size (l : Launch) (D : va_G) (cB cI cJ cZ : ClassId) (o : Nat → Nat) (s_o : S1) (r : Int32) (hf : F_X1_size s_o = some r) : gM l D (tyL cB cI cJ cZ) yX1_size cX1_size 1 (some .int) rm_X1_size [.ref (o 0)] (w_X1_size o cB cI cJ cZ s_o) (some (.int r)) (w_X1_size o cB cI cJ cZ s_o) := by
  refine met_of (by decide) (Nat.le_of_ble_eq_true rfl) ?_
  intro p e s m args below meth c A cx hr hA
  show gW p l e rm_X1_size s m args below meth c D A 1 _ _ [(0, .ref (o 0))] 0 []
  rw [F_X1_size] at hf
  refine g_aln cx 0 dX1_size_0 rfl ?_
  refine fg_RX1_18 cx 0 rfl rfl dX1_size_1 ?_
  exact g_iret (ovf := fun (r : Int32) => (some (.int r))) (wf := fun (r : Int32) => (w_X1_size o cB cI cJ cZ s_o)) cx hA hr hf rfl rfl dX1_size_4
theorem dX1_isFull_0 : decode cX1_isFull 0 = .ok (.aload_n 0, 1) := by decide +kernel
theorem dX1_isFull_1 : decode cX1_isFull 1 = .ok (.getfield 18, 3) := by decide +kernel
theorem dX1_isFull_4 : decode cX1_isFull 4 = .ok (.iconst 2, 1) := by decide +kernel
theorem dX1_isFull_5 : decode cX1_isFull 5 = .ok (.if_icmp .lt 7, 3) := by decide +kernel
theorem dX1_isFull_8 : decode cX1_isFull 8 = .ok (.iconst 1, 1) := by decide +kernel
theorem dX1_isFull_9 : decode cX1_isFull 9 = .ok (.goto 4, 3) := by decide +kernel
theorem dX1_isFull_12 : decode cX1_isFull 12 = .ok (.iconst 0, 1) := by decide +kernel
theorem dX1_isFull_13 : decode cX1_isFull 13 = .ok (.ireturn, 1) := by decide +kernel


def F_X1_isFull (s_o : S1) : Option (Int32) := (if (s1_size s_o) < 2 then some (0) else some (1))
def w_X1_isFull (o : Nat → Nat) (cB cI cJ cZ : ClassId) (s_o : S1) : va_W := [(o 0, .inr (1, [.ref (o 1), .ref (o 2), .int (s1_size s_o)])), (o 1, .inl (cI, 16, .inl (s1_letters s_o))), (o 2, .inl (cI, 2, .inl (s1_lengths s_o)))]
abbrev rm_X1_isFull : Room := { frames := 0, cells := 0, slots := 0, locals := 0 }
set_option maxHeartbeats 4000000 in
set_option maxRecDepth 100000 in
theorem c_X1_isFull (l : Launch) (D : va_G) (cB cI cJ cZ : ClassId) (o : Nat → Nat) (s_o : S1) (r : Int32) (hf : F_X1_isFull s_o = some r) : gM l D (tyL cB cI cJ cZ) yX1_isFull cX1_isFull 1 (some .boolean) rm_X1_isFull [.ref (o 0)] (w_X1_isFull o cB cI cJ cZ s_o) (some (.int r)) (w_X1_isFull o cB cI cJ cZ s_o) := by
  refine met_of (by decide) (Nat.le_of_ble_eq_true rfl) ?_
  intro p e s m args below meth c A cx hr hA
  show gW p l e rm_X1_isFull s m args below meth c D A 1 _ _ [(0, .ref (o 0))] 0 []
  rw [F_X1_isFull] at hf
  refine g_aln cx 0 dX1_isFull_0 rfl ?_
  refine fg_RX1_18 cx 0 rfl rfl dX1_isFull_1 ?_
  refine g_ic cx dX1_isFull_4 k_ic2 ?_
  refine g_ic_lt (tgt := 12) cx hf dX1_isFull_5 rfl (fun hf => ?_) (fun hf => ?_)
  · refine g_ic cx dX1_isFull_12 k_ic0 ?_
    exact g_zret (ovf := fun (r : Int32) => (some (.int r))) (wf := fun (r : Int32) => (w_X1_isFull o cB cI cJ cZ s_o)) cx hA hr rfl hf rfl rfl dX1_isFull_13
  · refine g_ic cx dX1_isFull_8 k_ic1 ?_
    refine g_goto (tgt := 13) cx dX1_isFull_9 rfl ?_
    exact g_zret (ovf := fun (r : Int32) => (some (.int r))) (wf := fun (r : Int32) => (w_X1_isFull o cB cI cJ cZ s_o)) cx hA hr rfl hf rfl rfl dX1_isFull_13
theorem dX1_has_0 : decode cX1_has 0 = .ok (.iload_n 1, 1) := by decide +kernel
theorem dX1_has_1 : decode cX1_has 1 = .ok (.ifCond .lt 15, 3) := by decide +kernel
theorem dX1_has_4 : decode cX1_has 4 = .ok (.iload_n 1, 1) := by decide +kernel
theorem dX1_has_5 : decode cX1_has 5 = .ok (.aload_n 0, 1) := by decide +kernel
theorem dX1_has_6 : decode cX1_has 6 = .ok (.getfield 18, 3) := by decide +kernel
theorem dX1_has_9 : decode cX1_has 9 = .ok (.if_icmp .ge 7, 3) := by decide +kernel
theorem dX1_has_12 : decode cX1_has 12 = .ok (.iconst 1, 1) := by decide +kernel
theorem dX1_has_13 : decode cX1_has 13 = .ok (.goto 4, 3) := by decide +kernel
theorem dX1_has_16 : decode cX1_has 16 = .ok (.iconst 0, 1) := by decide +kernel
theorem dX1_has_17 : decode cX1_has 17 = .ok (.ireturn, 1) := by decide +kernel


def F_X1_has (s_o : S1) (x1 : Int32) : Option (Int32) := (if x1 < 0 then some (0) else (if (s1_size s_o) ≤ x1 then some (0) else some (1)))
def w_X1_has (o : Nat → Nat) (cB cI cJ cZ : ClassId) (s_o : S1) : va_W := [(o 0, .inr (1, [.ref (o 1), .ref (o 2), .int (s1_size s_o)])), (o 1, .inl (cI, 16, .inl (s1_letters s_o))), (o 2, .inl (cI, 2, .inl (s1_lengths s_o)))]
abbrev rm_X1_has : Room := { frames := 0, cells := 0, slots := 0, locals := 0 }
set_option maxHeartbeats 4000000 in
set_option maxRecDepth 100000 in
theorem c_X1_has (l : Launch) (D : va_G) (cB cI cJ cZ : ClassId) (o : Nat → Nat) (s_o : S1) (x1 : Int32) (r : Int32) (hf : F_X1_has s_o x1 = some r) : gM l D (tyL cB cI cJ cZ) yX1_has cX1_has 2 (some .boolean) rm_X1_has [.ref (o 0), .int x1] (w_X1_has o cB cI cJ cZ s_o) (some (.int r)) (w_X1_has o cB cI cJ cZ s_o) := by
  refine met_of (by decide) (Nat.le_of_ble_eq_true rfl) ?_
  intro p e s m args below meth c A cx hr hA
  show gW p l e rm_X1_has s m args below meth c D A 2 _ _ [(0, .ref (o 0)), (1, .int x1)] 0 []
  rw [F_X1_has] at hf
  refine g_iln cx 1 dX1_has_0 rfl ?_
  refine g_if_lt (tgt := 16) cx hf dX1_has_1 rfl (fun hf => ?_) (fun hf => ?_)
  · refine g_ic cx dX1_has_16 k_ic0 ?_
    exact g_zret (ovf := fun (r : Int32) => (some (.int r))) (wf := fun (r : Int32) => (w_X1_has o cB cI cJ cZ s_o)) cx hA hr rfl hf rfl rfl dX1_has_17
  · refine g_iln cx 1 dX1_has_4 rfl ?_
    refine g_aln cx 0 dX1_has_5 rfl ?_
    refine fg_RX1_18 cx 0 rfl rfl dX1_has_6 ?_
    refine g_ic_ge (tgt := 16) cx hf dX1_has_9 rfl (fun hf => ?_) (fun hf => ?_)
    · refine g_ic cx dX1_has_16 k_ic0 ?_
      exact g_zret (ovf := fun (r : Int32) => (some (.int r))) (wf := fun (r : Int32) => (w_X1_has o cB cI cJ cZ s_o)) cx hA hr rfl hf rfl rfl dX1_has_17
    · refine g_ic cx dX1_has_12 k_ic1 ?_
      refine g_goto (tgt := 17) cx dX1_has_13 rfl ?_
      exact g_zret (ovf := fun (r : Int32) => (some (.int r))) (wf := fun (r : Int32) => (w_X1_has o cB cI cJ cZ s_o)) cx hA hr rfl hf rfl rfl dX1_has_17
theorem dX1_wipe_0 : decode cX1_wipe 0 = .ok (.aload_n 0, 1) := by decide +kernel
theorem dX1_wipe_1 : decode cX1_wipe 1 = .ok (.iconst 0, 1) := by decide +kernel
theorem dX1_wipe_2 : decode cX1_wipe 2 = .ok (.putfield 18, 3) := by decide +kernel
theorem dX1_wipe_5 : decode cX1_wipe 5 = .ok (.return_, 1) := by decide +kernel

theorem fp_RX1_18 {p : Program} {l : Launch} {e : Env} {R : Room} {s : State} {m : MethodId} {args : Array Value} {below : List Frame} {meth : Method} {c : Code} {D : va_G} {tys : List (ClassId × FieldType)} {A : Nat → Prop} {nL : Nat} {Q : State → Prop} {cc : ByteArray} {ws : va_W} {L : List (Nat × Value)} {pc : Nat} {stk : List Value} (cx : gX p s m args meth c cc nL RX1 D tys A) {a : Nat} {fs : List Value} {x : Int32} (q0 : Nat) (he : ws[q0]? = some (a, .inr (1, fs))) (hl : 2 < fs.length) {ws' : va_W} (hw : ws.set q0 (a, .inr (1, fs.set 2 (.int x))) = ws') (hd : decode cc pc = .ok (.putfield 18, 3)) (kk : gW p l e R s m args below meth c D A nL Q ws' L (pc + 3) stk) : gW p l e R s m args below meth c D A nL Q ws L pc (.int x :: .ref a :: stk) :=
  g_put cx (C := RX1) (T := TX1) (N := 3) (ty0 := tyX1) (ty := .int) inT1 tyX1_ok nmX1 rfl 2 (Nat.le_of_ble_eq_true rfl) q1_187 rfl rfl rfl rfl rfl q0 he hl hw hd kk
def F_X1_wipe (s_o : S1) : Option (S1) := nm (u1_size s_o 0) fun s_o_1 => some (s_o_1)
def w_X1_wipe (o : Nat → Nat) (cB cI cJ cZ : ClassId) (s_o : S1) : va_W := [(o 0, .inr (1, [.ref (o 1), .ref (o 2), .int (s1_size s_o)])), (o 1, .inl (cI, 16, .inl (s1_letters s_o))), (o 2, .inl (cI, 2, .inl (s1_lengths s_o)))]
abbrev rm_X1_wipe : Room := { frames := 0, cells := 0, slots := 0, locals := 0 }
set_option maxHeartbeats 4000000 in
set_option maxRecDepth 100000 in
theorem c_X1_wipe (l : Launch) (D : va_G) (cB cI cJ cZ : ClassId) (o : Nat → Nat) (s_o : S1) (r : S1) (hf : F_X1_wipe s_o = some r) : gM l D (tyL cB cI cJ cZ) yX1_wipe cX1_wipe 1 none rm_X1_wipe [.ref (o 0)] (w_X1_wipe o cB cI cJ cZ s_o) none (w_X1_wipe o cB cI cJ cZ r) := by
  refine met_of (by decide) (Nat.le_of_ble_eq_true rfl) ?_
  intro p e s m args below meth c A cx hr hA
  show gW p l e rm_X1_wipe s m args below meth c D A 1 _ _ [(0, .ref (o 0))] 0 []
  rw [F_X1_wipe] at hf
  refine g_aln cx 0 dX1_wipe_0 rfl ?_
  refine g_ic cx dX1_wipe_1 k_ic0 ?_
  refine fp_RX1_18 cx 0 rfl (Nat.le_of_ble_eq_true rfl) (ws' := (w_X1_wipe o cB cI cJ cZ (u1_size s_o 0))) rfl dX1_wipe_2 ?_
  refine g_nm (w := fun s_o_1 => (w_X1_wipe o cB cI cJ cZ s_o_1)) hf (fun s_o_1 hf => ?_)
  exact g_vret (ovf := fun (r : S1) => none) (wf := fun (r : S1) => (w_X1_wipe o cB cI cJ cZ r)) cx hA hr hf rfl rfl dX1_wipe_5
theorem dX1_begin_0 : decode cX1_begin 0 = .ok (.aload_n 0, 1) := by decide +kernel
theorem dX1_begin_1 : decode cX1_begin 1 = .ok (.invokevirtual 22, 3) := by decide +kernel
theorem dX1_begin_4 : decode cX1_begin 4 = .ok (.ifCond .eq 4, 3) := by decide +kernel
theorem dX1_begin_7 : decode cX1_begin 7 = .ok (.return_, 1) := by decide +kernel
theorem dX1_begin_8 : decode cX1_begin 8 = .ok (.aload_n 0, 1) := by decide +kernel
theorem dX1_begin_9 : decode cX1_begin 9 = .ok (.getfield 15, 3) := by decide +kernel
theorem dX1_begin_12 : decode cX1_begin 12 = .ok (.aload_n 0, 1) := by decide +kernel
theorem dX1_begin_13 : decode cX1_begin 13 = .ok (.getfield 18, 3) := by decide +kernel
theorem dX1_begin_16 : decode cX1_begin 16 = .ok (.iconst 0, 1) := by decide +kernel
theorem dX1_begin_17 : decode cX1_begin 17 = .ok (.invokestatic 26, 3) := by decide +kernel
theorem dX1_begin_20 : decode cX1_begin 20 = .ok (.aload_n 0, 1) := by decide +kernel
theorem dX1_begin_21 : decode cX1_begin 21 = .ok (.dup, 1) := by decide +kernel
theorem dX1_begin_22 : decode cX1_begin 22 = .ok (.getfield 18, 3) := by decide +kernel
theorem dX1_begin_25 : decode cX1_begin 25 = .ok (.iconst 1, 1) := by decide +kernel
theorem dX1_begin_26 : decode cX1_begin 26 = .ok (.iadd, 1) := by decide +kernel
theorem dX1_begin_27 : decode cX1_begin 27 = .ok (.putfield 18, 3) := by decide +kernel
theorem dX1_begin_30 : decode cX1_begin 30 = .ok (.return_, 1) := by decide +kernel
theorem q1_11 : Cond.initialized RX1 ∈ TT := tq1 11 rfl rfl
theorem q1_186 : Cond.fieldLink RX1 15 "RhymeLaw$Forms" "lengths" "[I" ∈ TT := tq1 186 rfl rfl
theorem q2_185 : Cond.instanceMethod yX1_isFull ∈ TT := tq2 185 rfl rfl
theorem q2_186 : Cond.selects RX1 yX1_isFull yX1_isFull ∈ TT := tq2 186 rfl rfl
theorem q2_187 : Cond.code yX1_isFull cX1_isFull 1 (some .boolean) ∈ TT := tq2 187 rfl rfl
theorem q2_196 : Cond.methodLink RX1 22 yX1_isFull ∈ TT := tq2 196 rfl rfl
theorem q2_197 : Cond.methodLink RX1 26 yX6_set ∈ TT := tq2 197 rfl rfl
theorem lk_RX1_22 : vlk RX1 22 yX1_isFull cX1_isFull 1 (some .boolean) 0 := ⟨List.forall_mem_cons.mpr ⟨q2_196, List.forall_mem_cons.mpr ⟨q2_185, List.forall_mem_cons.mpr ⟨q2_186, List.forall_mem_cons.mpr ⟨q1_11, fun _ h => absurd h List.not_mem_nil⟩⟩⟩⟩, q2_187, by decide, by decide, by decide +kernel⟩
theorem fg_RX1_15 {p : Program} {l : Launch} {e : Env} {R : Room} {s : State} {m : MethodId} {args : Array Value} {below : List Frame} {meth : Method} {c : Code} {D : va_G} {tys : List (ClassId × FieldType)} {A : Nat → Prop} {nL : Nat} {Q : State → Prop} {cc : ByteArray} {ws : va_W} {L : List (Nat × Value)} {pc : Nat} {stk : List Value} (cx : gX p s m args meth c cc nL RX1 D tys A) {a : Nat} {fs : List Value} {v : Value} (q0 : Nat) (he : ws[q0]? = some (a, .inr (1, fs))) (hv : fs[1]? = some v) (hd : decode cc pc = .ok (.getfield 15, 3)) (kk : gW p l e R s m args below meth c D A nL Q ws L (pc + 3) (v :: stk)) : gW p l e R s m args below meth c D A nL Q ws L pc (.ref a :: stk) :=
  g_get cx (C := RX1) (T := TX1) (N := 3) inT1 rfl 1 (Nat.le_of_ble_eq_true rfl) q1_186 rfl q0 he hv hd kk
theorem lk_RX1_26 : slk RX1 26 yX6_set cX6_set 3 none 3 := ⟨List.forall_mem_cons.mpr ⟨q2_197, List.forall_mem_cons.mpr ⟨q2_178, List.forall_mem_cons.mpr ⟨q1_19, fun _ h => absurd h List.not_mem_nil⟩⟩⟩, q2_179, by decide, by decide, by decide +kernel⟩
def F_X1_begin (s_o : S1) : Option (S1) := (F_X1_isFull s_o).bind fun q_1 => (if q_1 = 0 then (F_X6_set 2 (s1_lengths s_o) (s1_size s_o) 0).bind fun q_2 => nm (u1_size (u1_lengths s_o q_2) ((s1_size (u1_lengths s_o q_2)) + 1)) fun s_o_3 => some (s_o_3) else some (s_o))
def w_X1_begin (o : Nat → Nat) (cB cI cJ cZ : ClassId) (s_o : S1) : va_W := [(o 0, .inr (1, [.ref (o 1), .ref (o 2), .int (s1_size s_o)])), (o 1, .inl (cI, 16, .inl (s1_letters s_o))), (o 2, .inl (cI, 2, .inl (s1_lengths s_o)))]
abbrev rm_X1_begin : Room := { frames := 1, cells := 0, slots := 0, locals := 22 }
set_option maxHeartbeats 4000000 in
set_option maxRecDepth 100000 in
theorem c_X1_begin (l : Launch) (D : va_G) (cB cI cJ cZ : ClassId) (o : Nat → Nat) (s_o : S1) (r : S1) (hf : F_X1_begin s_o = some r) : gM l D (tyL cB cI cJ cZ) yX1_begin cX1_begin 1 none rm_X1_begin [.ref (o 0)] (w_X1_begin o cB cI cJ cZ s_o) none (w_X1_begin o cB cI cJ cZ r) := by
  refine met_of (by decide) (Nat.le_of_ble_eq_true rfl) ?_
  intro p e s m args below meth c A cx hr hA
  show gW p l e rm_X1_begin s m args below meth c D A 1 _ _ [(0, .ref (o 0))] 0 []
  rw [F_X1_begin] at hf
  refine g_aln cx 0 dX1_begin_0 rfl ?_
  refine ob hf (fun q_1 hq_1 hf => ?_)
  refine g_callViR cx lk_RX1_22 (c_X1_isFull l D cB cI cJ cZ o s_o q_1 hq_1) rfl [0, 1, 2] rfl rfl (ci := 1) (q1 := 0) rfl rfl rfl (Nat.le_of_ble_eq_true rfl) ⟨rfl, rfl, Nat.le_of_ble_eq_true rfl, Nat.le_of_ble_eq_true rfl⟩ dX1_begin_1 ?_
  refine g_if_eq (tgt := 8) cx hf dX1_begin_4 rfl (fun hf => ?_) (fun hf => ?_)
  · refine g_aln cx 0 dX1_begin_8 rfl ?_
    refine fg_RX1_15 cx 0 rfl rfl dX1_begin_9 ?_
    refine g_aln cx 0 dX1_begin_12 rfl ?_
    refine fg_RX1_18 cx 0 rfl rfl dX1_begin_13 ?_
    refine g_ic cx dX1_begin_16 k_ic0 ?_
    refine ob hf (fun q_2 hq_2 hf => ?_)
    refine g_callSv cx lk_RX1_26 (c_X6_set l D cB cI cJ cZ (o 2) 2 (s1_lengths s_o) (s1_size s_o) 0 q_2 hq_2) rfl [2] rfl rfl (ws' := (w_X1_begin o cB cI cJ cZ (u1_lengths s_o q_2))) rfl rfl rfl (Nat.le_of_ble_eq_true rfl) ⟨rfl, rfl, Nat.le_of_ble_eq_true rfl, Nat.le_of_ble_eq_true rfl⟩ dX1_begin_17 ?_
    refine g_aln cx 0 dX1_begin_20 rfl ?_
    refine g_dup cx dX1_begin_21 rfl ?_
    refine fg_RX1_18 cx 0 rfl rfl dX1_begin_22 ?_
    refine g_ic cx dX1_begin_25 k_ic1 ?_
    refine g_iadd cx dX1_begin_26 ?_
    refine fp_RX1_18 cx 0 rfl (Nat.le_of_ble_eq_true rfl) (ws' := (w_X1_begin o cB cI cJ cZ (u1_size (u1_lengths s_o q_2) ((s1_size (u1_lengths s_o q_2)) + 1)))) rfl dX1_begin_27 ?_
    refine g_nm (w := fun s_o_3 => (w_X1_begin o cB cI cJ cZ s_o_3)) hf (fun s_o_3 hf => ?_)
    exact g_vret (ovf := fun (r : S1) => none) (wf := fun (r : S1) => (w_X1_begin o cB cI cJ cZ r)) cx hA hr hf rfl rfl dX1_begin_30
  · exact g_vret (ovf := fun (r : S1) => none) (wf := fun (r : S1) => (w_X1_begin o cB cI cJ cZ r)) cx hA hr hf rfl rfl dX1_begin_7
theorem dX1_addLetter_0 : decode cX1_addLetter 0 = .ok (.aload_n 0, 1) := by decide +kernel
theorem dX1_addLetter_1 : decode cX1_addLetter 1 = .ok (.getfield 18, 3) := by decide +kernel
theorem dX1_addLetter_4 : decode cX1_addLetter 4 = .ok (.iconst 1, 1) := by decide +kernel
theorem dX1_addLetter_5 : decode cX1_addLetter 5 = .ok (.isub, 1) := by decide +kernel
theorem dX1_addLetter_6 : decode cX1_addLetter 6 = .ok (.istore_n 2, 1) := by decide +kernel
theorem dX1_addLetter_7 : decode cX1_addLetter 7 = .ok (.aload_n 0, 1) := by decide +kernel
theorem dX1_addLetter_8 : decode cX1_addLetter 8 = .ok (.getfield 15, 3) := by decide +kernel
theorem dX1_addLetter_11 : decode cX1_addLetter 11 = .ok (.iload_n 2, 1) := by decide +kernel
theorem dX1_addLetter_12 : decode cX1_addLetter 12 = .ok (.invokestatic 32, 3) := by decide +kernel
theorem dX1_addLetter_15 : decode cX1_addLetter 15 = .ok (.istore_n 3, 1) := by decide +kernel
theorem dX1_addLetter_16 : decode cX1_addLetter 16 = .ok (.iload_n 2, 1) := by decide +kernel
theorem dX1_addLetter_17 : decode cX1_addLetter 17 = .ok (.ifCond .lt 9, 3) := by decide +kernel
theorem dX1_addLetter_20 : decode cX1_addLetter 20 = .ok (.iload_n 3, 1) := by decide +kernel
theorem dX1_addLetter_21 : decode cX1_addLetter 21 = .ok (.bipush 8, 2) := by decide +kernel
theorem dX1_addLetter_23 : decode cX1_addLetter 23 = .ok (.if_icmp .lt 4, 3) := by decide +kernel
theorem dX1_addLetter_26 : decode cX1_addLetter 26 = .ok (.return_, 1) := by decide +kernel
theorem dX1_addLetter_27 : decode cX1_addLetter 27 = .ok (.aload_n 0, 1) := by decide +kernel
theorem dX1_addLetter_28 : decode cX1_addLetter 28 = .ok (.getfield 9, 3) := by decide +kernel
theorem dX1_addLetter_31 : decode cX1_addLetter 31 = .ok (.iload_n 2, 1) := by decide +kernel
theorem dX1_addLetter_32 : decode cX1_addLetter 32 = .ok (.bipush 8, 2) := by decide +kernel
theorem dX1_addLetter_34 : decode cX1_addLetter 34 = .ok (.imul, 1) := by decide +kernel
theorem dX1_addLetter_35 : decode cX1_addLetter 35 = .ok (.iload_n 3, 1) := by decide +kernel
theorem dX1_addLetter_36 : decode cX1_addLetter 36 = .ok (.iadd, 1) := by decide +kernel
theorem dX1_addLetter_37 : decode cX1_addLetter 37 = .ok (.iload_n 1, 1) := by decide +kernel
theorem dX1_addLetter_38 : decode cX1_addLetter 38 = .ok (.invokestatic 26, 3) := by decide +kernel
theorem dX1_addLetter_41 : decode cX1_addLetter 41 = .ok (.aload_n 0, 1) := by decide +kernel
theorem dX1_addLetter_42 : decode cX1_addLetter 42 = .ok (.getfield 15, 3) := by decide +kernel
theorem dX1_addLetter_45 : decode cX1_addLetter 45 = .ok (.iload_n 2, 1) := by decide +kernel
theorem dX1_addLetter_46 : decode cX1_addLetter 46 = .ok (.iload_n 3, 1) := by decide +kernel
theorem dX1_addLetter_47 : decode cX1_addLetter 47 = .ok (.iconst 1, 1) := by decide +kernel
theorem dX1_addLetter_48 : decode cX1_addLetter 48 = .ok (.iadd, 1) := by decide +kernel
theorem dX1_addLetter_49 : decode cX1_addLetter 49 = .ok (.invokestatic 26, 3) := by decide +kernel
theorem dX1_addLetter_52 : decode cX1_addLetter 52 = .ok (.return_, 1) := by decide +kernel
theorem q1_185 : Cond.fieldLink RX1 9 "RhymeLaw$Forms" "letters" "[I" ∈ TT := tq1 185 rfl rfl
theorem q2_206 : Cond.methodLink RX1 32 yX6_at ∈ TT := tq2 206 rfl rfl
theorem lk_RX1_32 : slk RX1 32 yX6_at cX6_at 2 (some .int) 2 := ⟨List.forall_mem_cons.mpr ⟨q2_206, List.forall_mem_cons.mpr ⟨q2_207, List.forall_mem_cons.mpr ⟨q1_19, fun _ h => absurd h List.not_mem_nil⟩⟩⟩, q2_208, by decide, by decide, by decide +kernel⟩
theorem fg_RX1_9 {p : Program} {l : Launch} {e : Env} {R : Room} {s : State} {m : MethodId} {args : Array Value} {below : List Frame} {meth : Method} {c : Code} {D : va_G} {tys : List (ClassId × FieldType)} {A : Nat → Prop} {nL : Nat} {Q : State → Prop} {cc : ByteArray} {ws : va_W} {L : List (Nat × Value)} {pc : Nat} {stk : List Value} (cx : gX p s m args meth c cc nL RX1 D tys A) {a : Nat} {fs : List Value} {v : Value} (q0 : Nat) (he : ws[q0]? = some (a, .inr (1, fs))) (hv : fs[0]? = some v) (hd : decode cc pc = .ok (.getfield 9, 3)) (kk : gW p l e R s m args below meth c D A nL Q ws L (pc + 3) (v :: stk)) : gW p l e R s m args below meth c D A nL Q ws L pc (.ref a :: stk) :=
  g_get cx (C := RX1) (T := TX1) (N := 3) inT1 rfl 0 (Nat.le_of_ble_eq_true rfl) q1_185 rfl q0 he hv hd kk
def F_X1_addLetter (s_o : S1) (x1 : Int32) : Option (S1) := nm ((s1_size s_o) - 1) fun v2_1 => (F_X6_at 2 (s1_lengths s_o) v2_1).bind fun q_2 => nm q_2 fun v3_3 => (if v2_1 < 0 then some (s_o) else (if v3_3 < 8 then (F_X6_set 16 (s1_letters s_o) ((v2_1 * 8) + v3_3) x1).bind fun q_4 => (F_X6_set 2 (s1_lengths (u1_letters s_o q_4)) v2_1 (v3_3 + 1)).bind fun q_5 => some ((u1_lengths (u1_letters s_o q_4) q_5)) else some (s_o)))
def w_X1_addLetter (o : Nat → Nat) (cB cI cJ cZ : ClassId) (s_o : S1) : va_W := [(o 0, .inr (1, [.ref (o 1), .ref (o 2), .int (s1_size s_o)])), (o 1, .inl (cI, 16, .inl (s1_letters s_o))), (o 2, .inl (cI, 2, .inl (s1_lengths s_o)))]
abbrev rm_X1_addLetter : Room := { frames := 1, cells := 0, slots := 0, locals := 22 }
set_option maxHeartbeats 4000000 in
set_option maxRecDepth 100000 in
theorem c_X1_addLetter (l : Launch) (D : va_G) (cB cI cJ cZ : ClassId) (o : Nat → Nat) (s_o : S1) (x1 : Int32) (r : S1) (hf : F_X1_addLetter s_o x1 = some r) : gM l D (tyL cB cI cJ cZ) yX1_addLetter cX1_addLetter 4 none rm_X1_addLetter [.ref (o 0), .int x1] (w_X1_addLetter o cB cI cJ cZ s_o) none (w_X1_addLetter o cB cI cJ cZ r) := by
  refine met_of (by decide) (Nat.le_of_ble_eq_true rfl) ?_
  intro p e s m args below meth c A cx hr hA
  show gW p l e rm_X1_addLetter s m args below meth c D A 4 _ _ [(0, .ref (o 0)), (1, .int x1)] 0 []
  rw [F_X1_addLetter] at hf
  refine g_aln cx 0 dX1_addLetter_0 rfl ?_
  refine fg_RX1_18 cx 0 rfl rfl dX1_addLetter_1 ?_
  refine g_ic cx dX1_addLetter_4 k_ic1 ?_
  refine g_isub cx dX1_addLetter_5 ?_
  refine g_isn cx (L2 := fun v2_1 => [(2, .int v2_1), (0, .ref (o 0)), (1, .int x1)]) hf dX1_addLetter_6 (Nat.le_of_ble_eq_true rfl) (fun _ => rfl) (fun v2_1 hf => ?_)
  refine g_aln cx 1 dX1_addLetter_7 rfl ?_
  refine fg_RX1_15 cx 0 rfl rfl dX1_addLetter_8 ?_
  refine g_iln cx 0 dX1_addLetter_11 rfl ?_
  refine ob hf (fun q_2 hq_2 hf => ?_)
  refine g_callSiR cx lk_RX1_32 (c_X6_at l D cB cI cJ cZ (o 2) 2 (s1_lengths s_o) v2_1 q_2 hq_2) rfl [2] rfl rfl rfl (Nat.le_of_ble_eq_true rfl) ⟨rfl, rfl, Nat.le_of_ble_eq_true rfl, Nat.le_of_ble_eq_true rfl⟩ dX1_addLetter_12 ?_
  refine g_isn cx (L2 := fun v3_3 => [(3, .int v3_3), (2, .int v2_1), (0, .ref (o 0)), (1, .int x1)]) hf dX1_addLetter_15 (Nat.le_of_ble_eq_true rfl) (fun _ => rfl) (fun v3_3 hf => ?_)
  refine g_iln cx 1 dX1_addLetter_16 rfl ?_
  refine g_if_lt (tgt := 26) cx hf dX1_addLetter_17 rfl (fun hf => ?_) (fun hf => ?_)
  · exact g_vret (ovf := fun (r : S1) => none) (wf := fun (r : S1) => (w_X1_addLetter o cB cI cJ cZ r)) cx hA hr hf rfl rfl dX1_addLetter_26
  · refine g_iln cx 0 dX1_addLetter_20 rfl ?_
    refine g_bp cx dX1_addLetter_21 k_bp8 ?_
    refine g_ic_lt (tgt := 27) cx hf dX1_addLetter_23 rfl (fun hf => ?_) (fun hf => ?_)
    · refine g_aln cx 2 dX1_addLetter_27 rfl ?_
      refine fg_RX1_9 cx 0 rfl rfl dX1_addLetter_28 ?_
      refine g_iln cx 1 dX1_addLetter_31 rfl ?_
      refine g_bp cx dX1_addLetter_32 k_bp8 ?_
      refine g_imul cx dX1_addLetter_34 ?_
      refine g_iln cx 0 dX1_addLetter_35 rfl ?_
      refine g_iadd cx dX1_addLetter_36 ?_
      refine g_iln cx 3 dX1_addLetter_37 rfl ?_
      refine ob hf (fun q_4 hq_4 hf => ?_)
      refine g_callSv cx lk_RX1_26 (c_X6_set l D cB cI cJ cZ (o 1) 16 (s1_letters s_o) ((v2_1 * 8) + v3_3) x1 q_4 hq_4) rfl [1] rfl rfl (ws' := (w_X1_addLetter o cB cI cJ cZ (u1_letters s_o q_4))) rfl rfl rfl (Nat.le_of_ble_eq_true rfl) ⟨rfl, rfl, Nat.le_of_ble_eq_true rfl, Nat.le_of_ble_eq_true rfl⟩ dX1_addLetter_38 ?_
      refine g_aln cx 2 dX1_addLetter_41 rfl ?_
      refine fg_RX1_15 cx 0 rfl rfl dX1_addLetter_42 ?_
      refine g_iln cx 1 dX1_addLetter_45 rfl ?_
      refine g_iln cx 0 dX1_addLetter_46 rfl ?_
      refine g_ic cx dX1_addLetter_47 k_ic1 ?_
      refine g_iadd cx dX1_addLetter_48 ?_
      refine ob hf (fun q_5 hq_5 hf => ?_)
      refine g_callSv cx lk_RX1_26 (c_X6_set l D cB cI cJ cZ (o 2) 2 (s1_lengths (u1_letters s_o q_4)) v2_1 (v3_3 + 1) q_5 hq_5) rfl [2] rfl rfl (ws' := (w_X1_addLetter o cB cI cJ cZ (u1_lengths (u1_letters s_o q_4) q_5))) rfl rfl rfl (Nat.le_of_ble_eq_true rfl) ⟨rfl, rfl, Nat.le_of_ble_eq_true rfl, Nat.le_of_ble_eq_true rfl⟩ dX1_addLetter_49 ?_
      exact g_vret (ovf := fun (r : S1) => none) (wf := fun (r : S1) => (w_X1_addLetter o cB cI cJ cZ r)) cx hA hr hf rfl rfl dX1_addLetter_52
    · exact g_vret (ovf := fun (r : S1) => none) (wf := fun (r : S1) => (w_X1_addLetter o cB cI cJ cZ r)) cx hA hr hf rfl rfl dX1_addLetter_26
theorem dX1_letter_0 : decode cX1_letter 0 = .ok (.aload_n 0, 1) := by decide +kernel
theorem dX1_letter_1 : decode cX1_letter 1 = .ok (.getfield 15, 3) := by decide +kernel
theorem dX1_letter_4 : decode cX1_letter 4 = .ok (.iload_n 1, 1) := by decide +kernel
theorem dX1_letter_5 : decode cX1_letter 5 = .ok (.invokestatic 32, 3) := by decide +kernel
theorem dX1_letter_8 : decode cX1_letter 8 = .ok (.istore_n 3, 1) := by decide +kernel
theorem dX1_letter_9 : decode cX1_letter 9 = .ok (.iload_n 3, 1) := by decide +kernel
theorem dX1_letter_10 : decode cX1_letter 10 = .ok (.ifCond .le 25, 3) := by decide +kernel
theorem dX1_letter_13 : decode cX1_letter 13 = .ok (.iload_n 2, 1) := by decide +kernel
theorem dX1_letter_14 : decode cX1_letter 14 = .ok (.ifCond .lt 21, 3) := by decide +kernel
theorem dX1_letter_17 : decode cX1_letter 17 = .ok (.aload_n 0, 1) := by decide +kernel
theorem dX1_letter_18 : decode cX1_letter 18 = .ok (.getfield 9, 3) := by decide +kernel
theorem dX1_letter_21 : decode cX1_letter 21 = .ok (.iload_n 1, 1) := by decide +kernel
theorem dX1_letter_22 : decode cX1_letter 22 = .ok (.bipush 8, 2) := by decide +kernel
theorem dX1_letter_24 : decode cX1_letter 24 = .ok (.imul, 1) := by decide +kernel
theorem dX1_letter_25 : decode cX1_letter 25 = .ok (.iload_n 2, 1) := by decide +kernel
theorem dX1_letter_26 : decode cX1_letter 26 = .ok (.iload_n 3, 1) := by decide +kernel
theorem dX1_letter_27 : decode cX1_letter 27 = .ok (.irem, 1) := by decide +kernel
theorem dX1_letter_28 : decode cX1_letter 28 = .ok (.iadd, 1) := by decide +kernel
theorem dX1_letter_29 : decode cX1_letter 29 = .ok (.invokestatic 32, 3) := by decide +kernel
theorem dX1_letter_32 : decode cX1_letter 32 = .ok (.goto 4, 3) := by decide +kernel
theorem dX1_letter_35 : decode cX1_letter 35 = .ok (.iconst 0, 1) := by decide +kernel
theorem dX1_letter_36 : decode cX1_letter 36 = .ok (.ireturn, 1) := by decide +kernel


def F_X1_letter (s_o : S1) (x1 : Int32) (x2 : Int32) : Option (Int32) := (F_X6_at 2 (s1_lengths s_o) x1).bind fun q_1 => nm q_1 fun v3_2 => (if v3_2 ≤ 0 then some (0) else (if x2 < 0 then some (0) else (orem x2 v3_2).bind fun m_3 => (F_X6_at 16 (s1_letters s_o) ((x1 * 8) + m_3)).bind fun q_4 => some (q_4)))
def w_X1_letter (o : Nat → Nat) (cB cI cJ cZ : ClassId) (s_o : S1) : va_W := [(o 0, .inr (1, [.ref (o 1), .ref (o 2), .int (s1_size s_o)])), (o 1, .inl (cI, 16, .inl (s1_letters s_o))), (o 2, .inl (cI, 2, .inl (s1_lengths s_o)))]
abbrev rm_X1_letter : Room := { frames := 1, cells := 0, slots := 0, locals := 21 }
set_option maxHeartbeats 4000000 in
set_option maxRecDepth 100000 in
theorem c_X1_letter (l : Launch) (D : va_G) (cB cI cJ cZ : ClassId) (o : Nat → Nat) (s_o : S1) (x1 : Int32) (x2 : Int32) (r : Int32) (hf : F_X1_letter s_o x1 x2 = some r) : gM l D (tyL cB cI cJ cZ) yX1_letter cX1_letter 4 (some .int) rm_X1_letter [.ref (o 0), .int x1, .int x2] (w_X1_letter o cB cI cJ cZ s_o) (some (.int r)) (w_X1_letter o cB cI cJ cZ s_o) := by
  refine met_of (by decide) (Nat.le_of_ble_eq_true rfl) ?_
  intro p e s m args below meth c A cx hr hA
  show gW p l e rm_X1_letter s m args below meth c D A 4 _ _ [(0, .ref (o 0)), (1, .int x1), (2, .int x2)] 0 []
  rw [F_X1_letter] at hf
  refine g_aln cx 0 dX1_letter_0 rfl ?_
  refine fg_RX1_15 cx 0 rfl rfl dX1_letter_1 ?_
  refine g_iln cx 1 dX1_letter_4 rfl ?_
  refine ob hf (fun q_1 hq_1 hf => ?_)
  refine g_callSiR cx lk_RX1_32 (c_X6_at l D cB cI cJ cZ (o 2) 2 (s1_lengths s_o) x1 q_1 hq_1) rfl [2] rfl rfl rfl (Nat.le_of_ble_eq_true rfl) ⟨rfl, rfl, Nat.le_of_ble_eq_true rfl, Nat.le_of_ble_eq_true rfl⟩ dX1_letter_5 ?_
  refine g_isn cx (L2 := fun v3_2 => [(3, .int v3_2), (0, .ref (o 0)), (1, .int x1), (2, .int x2)]) hf dX1_letter_8 (Nat.le_of_ble_eq_true rfl) (fun _ => rfl) (fun v3_2 hf => ?_)
  refine g_iln cx 0 dX1_letter_9 rfl ?_
  refine g_if_le (tgt := 35) cx hf dX1_letter_10 rfl (fun hf => ?_) (fun hf => ?_)
  · refine g_ic cx dX1_letter_35 k_ic0 ?_
    exact g_iret (ovf := fun (r : Int32) => (some (.int r))) (wf := fun (r : Int32) => (w_X1_letter o cB cI cJ cZ s_o)) cx hA hr hf rfl rfl dX1_letter_36
  · refine g_iln cx 3 dX1_letter_13 rfl ?_
    refine g_if_lt (tgt := 35) cx hf dX1_letter_14 rfl (fun hf => ?_) (fun hf => ?_)
    · refine g_ic cx dX1_letter_35 k_ic0 ?_
      exact g_iret (ovf := fun (r : Int32) => (some (.int r))) (wf := fun (r : Int32) => (w_X1_letter o cB cI cJ cZ s_o)) cx hA hr hf rfl rfl dX1_letter_36
    · refine g_aln cx 1 dX1_letter_17 rfl ?_
      refine fg_RX1_9 cx 0 rfl rfl dX1_letter_18 ?_
      refine g_iln cx 2 dX1_letter_21 rfl ?_
      refine g_bp cx dX1_letter_22 k_bp8 ?_
      refine g_imul cx dX1_letter_24 ?_
      refine g_iln cx 3 dX1_letter_25 rfl ?_
      refine g_iln cx 0 dX1_letter_26 rfl ?_
      refine g_irem cx hf dX1_letter_27 (fun m_3 hf => ?_)
      refine g_iadd cx dX1_letter_28 ?_
      refine ob hf (fun q_4 hq_4 hf => ?_)
      refine g_callSiR cx lk_RX1_32 (c_X6_at l D cB cI cJ cZ (o 1) 16 (s1_letters s_o) ((x1 * 8) + m_3) q_4 hq_4) rfl [1] rfl rfl rfl (Nat.le_of_ble_eq_true rfl) ⟨rfl, rfl, Nat.le_of_ble_eq_true rfl, Nat.le_of_ble_eq_true rfl⟩ dX1_letter_29 ?_
      refine g_goto (tgt := 36) cx dX1_letter_32 rfl ?_
      exact g_iret (ovf := fun (r : Int32) => (some (.int r))) (wf := fun (r : Int32) => (w_X1_letter o cB cI cJ cZ s_o)) cx hA hr hf rfl rfl dX1_letter_36
theorem dX1_ahead_0 : decode cX1_ahead 0 = .ok (.iload_n 2, 1) := by decide +kernel
theorem dX1_ahead_1 : decode cX1_ahead 1 = .ok (.iconst 1, 1) := by decide +kernel
theorem dX1_ahead_2 : decode cX1_ahead 2 = .ok (.isub, 1) := by decide +kernel
theorem dX1_ahead_3 : decode cX1_ahead 3 = .ok (.istore_n 3, 1) := by decide +kernel
theorem dX1_ahead_4 : decode cX1_ahead 4 = .ok (.iload_n 3, 1) := by decide +kernel
theorem dX1_ahead_5 : decode cX1_ahead 5 = .ok (.ifCond .lt 26, 3) := by decide +kernel
theorem dX1_ahead_8 : decode cX1_ahead 8 = .ok (.aload_n 0, 1) := by decide +kernel
theorem dX1_ahead_9 : decode cX1_ahead 9 = .ok (.iload_n 1, 1) := by decide +kernel
theorem dX1_ahead_10 : decode cX1_ahead 10 = .ok (.iload_n 3, 1) := by decide +kernel
theorem dX1_ahead_11 : decode cX1_ahead 11 = .ok (.invokevirtual 36, 3) := by decide +kernel
theorem dX1_ahead_14 : decode cX1_ahead 14 = .ok (.aload_n 0, 1) := by decide +kernel
theorem dX1_ahead_15 : decode cX1_ahead 15 = .ok (.iload_n 1, 1) := by decide +kernel
theorem dX1_ahead_16 : decode cX1_ahead 16 = .ok (.iload_n 2, 1) := by decide +kernel
theorem dX1_ahead_17 : decode cX1_ahead 17 = .ok (.invokevirtual 36, 3) := by decide +kernel
theorem dX1_ahead_20 : decode cX1_ahead 20 = .ok (.if_icmp .ne 5, 3) := by decide +kernel
theorem dX1_ahead_23 : decode cX1_ahead 23 = .ok (.iload_n 3, 1) := by decide +kernel
theorem dX1_ahead_24 : decode cX1_ahead 24 = .ok (.ireturn, 1) := by decide +kernel
theorem dX1_ahead_25 : decode cX1_ahead 25 = .ok (.iinc 3 (-1), 3) := by decide +kernel
theorem dX1_ahead_28 : decode cX1_ahead 28 = .ok (.goto (-24), 3) := by decide +kernel
theorem dX1_ahead_31 : decode cX1_ahead 31 = .ok (.iconst (-1), 1) := by decide +kernel
theorem dX1_ahead_32 : decode cX1_ahead 32 = .ok (.ireturn, 1) := by decide +kernel
theorem q3_53 : Cond.instanceMethod yX1_letter ∈ TT := tq3 53 rfl rfl
theorem q3_54 : Cond.selects RX1 yX1_letter yX1_letter ∈ TT := tq3 54 rfl rfl
theorem q3_55 : Cond.code yX1_letter cX1_letter 4 (some .int) ∈ TT := tq3 55 rfl rfl
theorem q3_237 : Cond.methodLink RX1 36 yX1_letter ∈ TT := tq3 237 rfl rfl
theorem lk_RX1_36 : vlk RX1 36 yX1_letter cX1_letter 4 (some .int) 2 := ⟨List.forall_mem_cons.mpr ⟨q3_237, List.forall_mem_cons.mpr ⟨q3_53, List.forall_mem_cons.mpr ⟨q3_54, List.forall_mem_cons.mpr ⟨q1_11, fun _ h => absurd h List.not_mem_nil⟩⟩⟩⟩, q3_55, by decide, by decide, by decide +kernel⟩
def F_X1_ahead_b4 (s_o : S1) (x1 : Int32) (x2 : Int32) : Nat → Int32 → Option (Int32)
  | 0, _ => none
  | n + 1, v3 => (if v3 < 0 then some ((-1)) else (F_X1_letter s_o x1 v3).bind fun q_1 => (F_X1_letter s_o x1 x2).bind fun q_2 => (if q_1 = q_2 then some (v3) else nm (v3 - 1) fun v3_3 => (F_X1_ahead_b4 s_o x1 x2 n) v3_3))
def F_X1_ahead (s_o : S1) (x1 : Int32) (x2 : Int32) : Option (Int32) := nm (x2 - 1) fun v3_4 => F_X1_ahead_b4 s_o x1 x2 fu v3_4
def w_X1_ahead (o : Nat → Nat) (cB cI cJ cZ : ClassId) (s_o : S1) : va_W := [(o 0, .inr (1, [.ref (o 1), .ref (o 2), .int (s1_size s_o)])), (o 1, .inl (cI, 16, .inl (s1_letters s_o))), (o 2, .inl (cI, 2, .inl (s1_lengths s_o)))]
abbrev rm_X1_ahead : Room := { frames := 2, cells := 0, slots := 0, locals := 44 }
set_option maxHeartbeats 4000000 in
set_option maxRecDepth 100000 in
theorem c_X1_ahead (l : Launch) (D : va_G) (cB cI cJ cZ : ClassId) (o : Nat → Nat) (s_o : S1) (x1 : Int32) (x2 : Int32) (r : Int32) (hf : F_X1_ahead s_o x1 x2 = some r) : gM l D (tyL cB cI cJ cZ) yX1_ahead cX1_ahead 4 (some .int) rm_X1_ahead [.ref (o 0), .int x1, .int x2] (w_X1_ahead o cB cI cJ cZ s_o) (some (.int r)) (w_X1_ahead o cB cI cJ cZ s_o) := by
  refine met_of (by decide) (Nat.le_of_ble_eq_true rfl) ?_
  intro p e s m args below meth c A cx hr hA
  show gW p l e rm_X1_ahead s m args below meth c D A 4 _ _ [(0, .ref (o 0)), (1, .int x1), (2, .int x2)] 0 []
  have h4 : ∀ (n : Nat) (v3 : Int32), F_X1_ahead_b4 s_o x1 x2 n v3 = some r → gW p l e rm_X1_ahead s m args below meth c D A 4 (MQ below (QM D (tyL cB cI cJ cZ) (some (.int r)) (w_X1_ahead o cB cI cJ cZ s_o) (w_X1_ahead o cB cI cJ cZ s_o) s.heap.size) args s 0 0 A) (w_X1_ahead o cB cI cJ cZ s_o) [(0, .ref (o 0)), (1, .int x1), (2, .int x2), (3, .int v3)] 4 [] := by
    intro n
    induction n with
    | zero => intro v3 hf; rw [F_X1_ahead_b4] at hf; cases hf
    | succ n ih =>
      intro v3 hf
      rw [F_X1_ahead_b4] at hf
      refine g_iln cx 3 dX1_ahead_4 rfl ?_
      refine g_if_lt (tgt := 31) cx hf dX1_ahead_5 rfl (fun hf => ?_) (fun hf => ?_)
      · refine g_ic cx dX1_ahead_31 k_icm1 ?_
        exact g_iret (ovf := fun (r : Int32) => (some (.int r))) (wf := fun (r : Int32) => (w_X1_ahead o cB cI cJ cZ s_o)) cx hA hr hf rfl rfl dX1_ahead_32
      · refine g_aln cx 0 dX1_ahead_8 rfl ?_
        refine g_iln cx 1 dX1_ahead_9 rfl ?_
        refine g_iln cx 3 dX1_ahead_10 rfl ?_
        refine ob hf (fun q_1 hq_1 hf => ?_)
        refine g_callViR cx lk_RX1_36 (c_X1_letter l D cB cI cJ cZ o s_o x1 v3 q_1 hq_1) rfl [0, 1, 2] rfl rfl (ci := 1) (q1 := 0) rfl rfl rfl (Nat.le_of_ble_eq_true rfl) ⟨rfl, rfl, Nat.le_of_ble_eq_true rfl, Nat.le_of_ble_eq_true rfl⟩ dX1_ahead_11 ?_
        refine g_aln cx 0 dX1_ahead_14 rfl ?_
        refine g_iln cx 1 dX1_ahead_15 rfl ?_
        refine g_iln cx 2 dX1_ahead_16 rfl ?_
        refine ob hf (fun q_2 hq_2 hf => ?_)
        refine g_callViR cx lk_RX1_36 (c_X1_letter l D cB cI cJ cZ o s_o x1 x2 q_2 hq_2) rfl [0, 1, 2] rfl rfl (ci := 1) (q1 := 0) rfl rfl rfl (Nat.le_of_ble_eq_true rfl) ⟨rfl, rfl, Nat.le_of_ble_eq_true rfl, Nat.le_of_ble_eq_true rfl⟩ dX1_ahead_17 ?_
        refine g_ic_ne (tgt := 25) cx hf dX1_ahead_20 rfl (fun hf => ?_) (fun hf => ?_)
        · refine g_inc cx (L2 := fun v3_3 => [(3, .int v3_3), (0, .ref (o 0)), (1, .int x1), (2, .int x2)]) 3 hf dX1_ahead_25 rfl (k_incm1 _) (Nat.le_of_ble_eq_true rfl) (fun _ => rfl) (fun v3_3 hf => ?_)
          refine g_goto (tgt := 4) cx dX1_ahead_28 rfl ?_
          refine g_sub [1, 2, 3, 0] rfl ?_
          exact ih _ hf
        · refine g_iln cx 3 dX1_ahead_23 rfl ?_
          exact g_iret (ovf := fun (r : Int32) => (some (.int r))) (wf := fun (r : Int32) => (w_X1_ahead o cB cI cJ cZ s_o)) cx hA hr hf rfl rfl dX1_ahead_24
  rw [F_X1_ahead] at hf
  refine g_iln cx 2 dX1_ahead_0 rfl ?_
  refine g_ic cx dX1_ahead_1 k_ic1 ?_
  refine g_isub cx dX1_ahead_2 ?_
  refine g_isn cx (L2 := fun v3_4 => [(3, .int v3_4), (0, .ref (o 0)), (1, .int x1), (2, .int x2)]) hf dX1_ahead_3 (Nat.le_of_ble_eq_true rfl) (fun _ => rfl) (fun v3_4 hf => ?_)
  refine g_sub [1, 2, 3, 0] rfl ?_
  exact h4 fu _ hf
theorem dX1_behind_0 : decode cX1_behind 0 = .ok (.iload_n 2, 1) := by decide +kernel
theorem dX1_behind_1 : decode cX1_behind 1 = .ok (.iconst 1, 1) := by decide +kernel
theorem dX1_behind_2 : decode cX1_behind 2 = .ok (.iadd, 1) := by decide +kernel
theorem dX1_behind_3 : decode cX1_behind 3 = .ok (.istore 4, 2) := by decide +kernel
theorem dX1_behind_5 : decode cX1_behind 5 = .ok (.iload 4, 2) := by decide +kernel
theorem dX1_behind_7 : decode cX1_behind 7 = .ok (.iload_n 3, 1) := by decide +kernel
theorem dX1_behind_8 : decode cX1_behind 8 = .ok (.if_icmp .ge 28, 3) := by decide +kernel
theorem dX1_behind_11 : decode cX1_behind 11 = .ok (.aload_n 0, 1) := by decide +kernel
theorem dX1_behind_12 : decode cX1_behind 12 = .ok (.iload_n 1, 1) := by decide +kernel
theorem dX1_behind_13 : decode cX1_behind 13 = .ok (.iload 4, 2) := by decide +kernel
theorem dX1_behind_15 : decode cX1_behind 15 = .ok (.invokevirtual 36, 3) := by decide +kernel
theorem dX1_behind_18 : decode cX1_behind 18 = .ok (.aload_n 0, 1) := by decide +kernel
theorem dX1_behind_19 : decode cX1_behind 19 = .ok (.iload_n 1, 1) := by decide +kernel
theorem dX1_behind_20 : decode cX1_behind 20 = .ok (.iload_n 2, 1) := by decide +kernel
theorem dX1_behind_21 : decode cX1_behind 21 = .ok (.invokevirtual 36, 3) := by decide +kernel
theorem dX1_behind_24 : decode cX1_behind 24 = .ok (.if_icmp .ne 6, 3) := by decide +kernel
theorem dX1_behind_27 : decode cX1_behind 27 = .ok (.iload 4, 2) := by decide +kernel
theorem dX1_behind_29 : decode cX1_behind 29 = .ok (.ireturn, 1) := by decide +kernel
theorem dX1_behind_30 : decode cX1_behind 30 = .ok (.iinc 4 1, 3) := by decide +kernel
theorem dX1_behind_33 : decode cX1_behind 33 = .ok (.goto (-28), 3) := by decide +kernel
theorem dX1_behind_36 : decode cX1_behind 36 = .ok (.iconst (-1), 1) := by decide +kernel
theorem dX1_behind_37 : decode cX1_behind 37 = .ok (.ireturn, 1) := by decide +kernel


def F_X1_behind_b5 (s_o : S1) (x1 : Int32) (x2 : Int32) (x3 : Int32) : Nat → Int32 → Option (Int32)
  | 0, _ => none
  | n + 1, v4 => (if x3 ≤ v4 then some ((-1)) else (F_X1_letter s_o x1 v4).bind fun q_1 => (F_X1_letter s_o x1 x2).bind fun q_2 => (if q_1 = q_2 then some (v4) else nm (v4 + 1) fun v4_3 => (F_X1_behind_b5 s_o x1 x2 x3 n) v4_3))
def F_X1_behind (s_o : S1) (x1 : Int32) (x2 : Int32) (x3 : Int32) : Option (Int32) := nm (x2 + 1) fun v4_4 => F_X1_behind_b5 s_o x1 x2 x3 fu v4_4
def w_X1_behind (o : Nat → Nat) (cB cI cJ cZ : ClassId) (s_o : S1) : va_W := [(o 0, .inr (1, [.ref (o 1), .ref (o 2), .int (s1_size s_o)])), (o 1, .inl (cI, 16, .inl (s1_letters s_o))), (o 2, .inl (cI, 2, .inl (s1_lengths s_o)))]
abbrev rm_X1_behind : Room := { frames := 2, cells := 0, slots := 0, locals := 44 }
set_option maxHeartbeats 4000000 in
set_option maxRecDepth 100000 in
theorem c_X1_behind (l : Launch) (D : va_G) (cB cI cJ cZ : ClassId) (o : Nat → Nat) (s_o : S1) (x1 : Int32) (x2 : Int32) (x3 : Int32) (r : Int32) (hf : F_X1_behind s_o x1 x2 x3 = some r) : gM l D (tyL cB cI cJ cZ) yX1_behind cX1_behind 5 (some .int) rm_X1_behind [.ref (o 0), .int x1, .int x2, .int x3] (w_X1_behind o cB cI cJ cZ s_o) (some (.int r)) (w_X1_behind o cB cI cJ cZ s_o) := by
  refine met_of (by decide) (Nat.le_of_ble_eq_true rfl) ?_
  intro p e s m args below meth c A cx hr hA
  show gW p l e rm_X1_behind s m args below meth c D A 5 _ _ [(0, .ref (o 0)), (1, .int x1), (2, .int x2), (3, .int x3)] 0 []
  have h5 : ∀ (n : Nat) (v4 : Int32), F_X1_behind_b5 s_o x1 x2 x3 n v4 = some r → gW p l e rm_X1_behind s m args below meth c D A 5 (MQ below (QM D (tyL cB cI cJ cZ) (some (.int r)) (w_X1_behind o cB cI cJ cZ s_o) (w_X1_behind o cB cI cJ cZ s_o) s.heap.size) args s 0 0 A) (w_X1_behind o cB cI cJ cZ s_o) [(0, .ref (o 0)), (1, .int x1), (2, .int x2), (3, .int x3), (4, .int v4)] 5 [] := by
    intro n
    induction n with
    | zero => intro v4 hf; rw [F_X1_behind_b5] at hf; cases hf
    | succ n ih =>
      intro v4 hf
      rw [F_X1_behind_b5] at hf
      refine g_il cx 4 dX1_behind_5 rfl ?_
      refine g_iln cx 3 dX1_behind_7 rfl ?_
      refine g_ic_ge (tgt := 36) cx hf dX1_behind_8 rfl (fun hf => ?_) (fun hf => ?_)
      · refine g_ic cx dX1_behind_36 k_icm1 ?_
        exact g_iret (ovf := fun (r : Int32) => (some (.int r))) (wf := fun (r : Int32) => (w_X1_behind o cB cI cJ cZ s_o)) cx hA hr hf rfl rfl dX1_behind_37
      · refine g_aln cx 0 dX1_behind_11 rfl ?_
        refine g_iln cx 1 dX1_behind_12 rfl ?_
        refine g_il cx 4 dX1_behind_13 rfl ?_
        refine ob hf (fun q_1 hq_1 hf => ?_)
        refine g_callViR cx lk_RX1_36 (c_X1_letter l D cB cI cJ cZ o s_o x1 v4 q_1 hq_1) rfl [0, 1, 2] rfl rfl (ci := 1) (q1 := 0) rfl rfl rfl (Nat.le_of_ble_eq_true rfl) ⟨rfl, rfl, Nat.le_of_ble_eq_true rfl, Nat.le_of_ble_eq_true rfl⟩ dX1_behind_15 ?_
        refine g_aln cx 0 dX1_behind_18 rfl ?_
        refine g_iln cx 1 dX1_behind_19 rfl ?_
        refine g_iln cx 2 dX1_behind_20 rfl ?_
        refine ob hf (fun q_2 hq_2 hf => ?_)
        refine g_callViR cx lk_RX1_36 (c_X1_letter l D cB cI cJ cZ o s_o x1 x2 q_2 hq_2) rfl [0, 1, 2] rfl rfl (ci := 1) (q1 := 0) rfl rfl rfl (Nat.le_of_ble_eq_true rfl) ⟨rfl, rfl, Nat.le_of_ble_eq_true rfl, Nat.le_of_ble_eq_true rfl⟩ dX1_behind_21 ?_
        refine g_ic_ne (tgt := 30) cx hf dX1_behind_24 rfl (fun hf => ?_) (fun hf => ?_)
        · refine g_inc cx (L2 := fun v4_3 => [(4, .int v4_3), (0, .ref (o 0)), (1, .int x1), (2, .int x2), (3, .int x3)]) 4 hf dX1_behind_30 rfl (k_inc1 _) (Nat.le_of_ble_eq_true rfl) (fun _ => rfl) (fun v4_3 hf => ?_)
          refine g_goto (tgt := 5) cx dX1_behind_33 rfl ?_
          refine g_sub [1, 2, 3, 4, 0] rfl ?_
          exact ih _ hf
        · refine g_il cx 4 dX1_behind_27 rfl ?_
          exact g_iret (ovf := fun (r : Int32) => (some (.int r))) (wf := fun (r : Int32) => (w_X1_behind o cB cI cJ cZ s_o)) cx hA hr hf rfl rfl dX1_behind_29
  rw [F_X1_behind] at hf
  refine g_iln cx 2 dX1_behind_0 rfl ?_
  refine g_ic cx dX1_behind_1 k_ic1 ?_
  refine g_iadd cx dX1_behind_2 ?_
  refine g_is cx (L2 := fun v4_4 => [(4, .int v4_4), (0, .ref (o 0)), (1, .int x1), (2, .int x2), (3, .int x3)]) hf dX1_behind_3 (Nat.le_of_ble_eq_true rfl) (fun _ => rfl) (fun v4_4 hf => ?_)
  refine g_sub [1, 2, 3, 4, 0] rfl ?_
  exact h5 fu _ hf
theorem dX1_pairs_0 : decode cX1_pairs 0 = .ok (.iconst 0, 1) := by decide +kernel
theorem dX1_pairs_1 : decode cX1_pairs 1 = .ok (.istore_n 3, 1) := by decide +kernel
theorem dX1_pairs_2 : decode cX1_pairs 2 = .ok (.iload_n 3, 1) := by decide +kernel
theorem dX1_pairs_3 : decode cX1_pairs 3 = .ok (.iload_n 2, 1) := by decide +kernel
theorem dX1_pairs_4 : decode cX1_pairs 4 = .ok (.if_icmp .ge 30, 3) := by decide +kernel
theorem dX1_pairs_7 : decode cX1_pairs 7 = .ok (.aload_n 0, 1) := by decide +kernel
theorem dX1_pairs_8 : decode cX1_pairs 8 = .ok (.iload_n 1, 1) := by decide +kernel
theorem dX1_pairs_9 : decode cX1_pairs 9 = .ok (.iload_n 3, 1) := by decide +kernel
theorem dX1_pairs_10 : decode cX1_pairs 10 = .ok (.invokevirtual 40, 3) := by decide +kernel
theorem dX1_pairs_13 : decode cX1_pairs 13 = .ok (.ifCond .ge 15, 3) := by decide +kernel
theorem dX1_pairs_16 : decode cX1_pairs 16 = .ok (.aload_n 0, 1) := by decide +kernel
theorem dX1_pairs_17 : decode cX1_pairs 17 = .ok (.iload_n 1, 1) := by decide +kernel
theorem dX1_pairs_18 : decode cX1_pairs 18 = .ok (.iload_n 3, 1) := by decide +kernel
theorem dX1_pairs_19 : decode cX1_pairs 19 = .ok (.iload_n 2, 1) := by decide +kernel
theorem dX1_pairs_20 : decode cX1_pairs 20 = .ok (.invokevirtual 43, 3) := by decide +kernel
theorem dX1_pairs_23 : decode cX1_pairs 23 = .ok (.ifCond .ge 5, 3) := by decide +kernel
theorem dX1_pairs_26 : decode cX1_pairs 26 = .ok (.iconst 0, 1) := by decide +kernel
theorem dX1_pairs_27 : decode cX1_pairs 27 = .ok (.ireturn, 1) := by decide +kernel
theorem dX1_pairs_28 : decode cX1_pairs 28 = .ok (.iinc 3 1, 3) := by decide +kernel
theorem dX1_pairs_31 : decode cX1_pairs 31 = .ok (.goto (-29), 3) := by decide +kernel
theorem dX1_pairs_34 : decode cX1_pairs 34 = .ok (.iload_n 2, 1) := by decide +kernel
theorem dX1_pairs_35 : decode cX1_pairs 35 = .ok (.ifCond .le 7, 3) := by decide +kernel
theorem dX1_pairs_38 : decode cX1_pairs 38 = .ok (.iconst 1, 1) := by decide +kernel
theorem dX1_pairs_39 : decode cX1_pairs 39 = .ok (.goto 4, 3) := by decide +kernel
theorem dX1_pairs_42 : decode cX1_pairs 42 = .ok (.iconst 0, 1) := by decide +kernel
theorem dX1_pairs_43 : decode cX1_pairs 43 = .ok (.ireturn, 1) := by decide +kernel
theorem q3_233 : Cond.methodLink RX1 40 yX1_ahead ∈ TT := tq3 233 rfl rfl
theorem q3_234 : Cond.instanceMethod yX1_ahead ∈ TT := tq3 234 rfl rfl
theorem q3_235 : Cond.selects RX1 yX1_ahead yX1_ahead ∈ TT := tq3 235 rfl rfl
theorem q3_236 : Cond.code yX1_ahead cX1_ahead 4 (some .int) ∈ TT := tq3 236 rfl rfl
theorem q3_238 : Cond.methodLink RX1 43 yX1_behind ∈ TT := tq3 238 rfl rfl
theorem q3_239 : Cond.instanceMethod yX1_behind ∈ TT := tq3 239 rfl rfl
theorem q4_0 : Cond.selects RX1 yX1_behind yX1_behind ∈ TT := tq4 0 rfl rfl
theorem q4_1 : Cond.code yX1_behind cX1_behind 5 (some .int) ∈ TT := tq4 1 rfl rfl
theorem lk_RX1_40 : vlk RX1 40 yX1_ahead cX1_ahead 4 (some .int) 2 := ⟨List.forall_mem_cons.mpr ⟨q3_233, List.forall_mem_cons.mpr ⟨q3_234, List.forall_mem_cons.mpr ⟨q3_235, List.forall_mem_cons.mpr ⟨q1_11, fun _ h => absurd h List.not_mem_nil⟩⟩⟩⟩, q3_236, by decide, by decide, by decide +kernel⟩
theorem lk_RX1_43 : vlk RX1 43 yX1_behind cX1_behind 5 (some .int) 3 := ⟨List.forall_mem_cons.mpr ⟨q3_238, List.forall_mem_cons.mpr ⟨q3_239, List.forall_mem_cons.mpr ⟨q4_0, List.forall_mem_cons.mpr ⟨q1_11, fun _ h => absurd h List.not_mem_nil⟩⟩⟩⟩, q4_1, by decide, by decide, by decide +kernel⟩
def F_X1_pairs_b28 (s_o : S1) (x1 : Int32) (x2 : Int32) (K2 : Int32 → Option (Int32)) (v3 : Int32) : Option (Int32) := nm (v3 + 1) fun v3_1 => K2 v3_1
def F_X1_pairs_b2 (s_o : S1) (x1 : Int32) (x2 : Int32) : Nat → Int32 → Option (Int32)
  | 0, _ => none
  | n + 1, v3 => (if x2 ≤ v3 then (if x2 ≤ 0 then some (0) else some (1)) else (F_X1_ahead s_o x1 v3).bind fun q_2 => (if 0 ≤ q_2 then F_X1_pairs_b28 s_o x1 x2 (F_X1_pairs_b2 s_o x1 x2 n) v3 else (F_X1_behind s_o x1 v3 x2).bind fun q_3 => (if 0 ≤ q_3 then F_X1_pairs_b28 s_o x1 x2 (F_X1_pairs_b2 s_o x1 x2 n) v3 else some (0))))
def F_X1_pairs (s_o : S1) (x1 : Int32) (x2 : Int32) : Option (Int32) := nm 0 fun v3_4 => F_X1_pairs_b2 s_o x1 x2 fu v3_4
def w_X1_pairs (o : Nat → Nat) (cB cI cJ cZ : ClassId) (s_o : S1) : va_W := [(o 0, .inr (1, [.ref (o 1), .ref (o 2), .int (s1_size s_o)])), (o 1, .inl (cI, 16, .inl (s1_letters s_o))), (o 2, .inl (cI, 2, .inl (s1_lengths s_o)))]
abbrev rm_X1_pairs : Room := { frames := 3, cells := 0, slots := 0, locals := 68 }
set_option maxHeartbeats 4000000 in
set_option maxRecDepth 100000 in
theorem c_X1_pairs (l : Launch) (D : va_G) (cB cI cJ cZ : ClassId) (o : Nat → Nat) (s_o : S1) (x1 : Int32) (x2 : Int32) (r : Int32) (hf : F_X1_pairs s_o x1 x2 = some r) : gM l D (tyL cB cI cJ cZ) yX1_pairs cX1_pairs 4 (some .boolean) rm_X1_pairs [.ref (o 0), .int x1, .int x2] (w_X1_pairs o cB cI cJ cZ s_o) (some (.int r)) (w_X1_pairs o cB cI cJ cZ s_o) := by
  refine met_of (by decide) (Nat.le_of_ble_eq_true rfl) ?_
  intro p e s m args below meth c A cx hr hA
  show gW p l e rm_X1_pairs s m args below meth c D A 4 _ _ [(0, .ref (o 0)), (1, .int x1), (2, .int x2)] 0 []
  have h28 : ∀ (K2 : Int32 → Option (Int32)), (∀ (v3 : Int32), K2 v3 = some r → gW p l e rm_X1_pairs s m args below meth c D A 4 (MQ below (QM D (tyL cB cI cJ cZ) (some (.int r)) (w_X1_pairs o cB cI cJ cZ s_o) (w_X1_pairs o cB cI cJ cZ s_o) s.heap.size) args s 0 0 A) (w_X1_pairs o cB cI cJ cZ s_o) [(0, .ref (o 0)), (1, .int x1), (2, .int x2), (3, .int v3)] 2 []) → ∀ (v3 : Int32), F_X1_pairs_b28 s_o x1 x2 K2 v3 = some r → gW p l e rm_X1_pairs s m args below meth c D A 4 (MQ below (QM D (tyL cB cI cJ cZ) (some (.int r)) (w_X1_pairs o cB cI cJ cZ s_o) (w_X1_pairs o cB cI cJ cZ s_o) s.heap.size) args s 0 0 A) (w_X1_pairs o cB cI cJ cZ s_o) [(0, .ref (o 0)), (1, .int x1), (2, .int x2), (3, .int v3)] 28 [] := by
    intro K2 k2 v3 hf
    rw [F_X1_pairs_b28] at hf
    refine g_inc cx (L2 := fun v3_1 => [(3, .int v3_1), (0, .ref (o 0)), (1, .int x1), (2, .int x2)]) 3 hf dX1_pairs_28 rfl (k_inc1 _) (Nat.le_of_ble_eq_true rfl) (fun _ => rfl) (fun v3_1 hf => ?_)
    refine g_goto (tgt := 2) cx dX1_pairs_31 rfl ?_
    refine g_sub [1, 2, 3, 0] rfl ?_
    exact k2 _ hf
  have h2 : ∀ (n : Nat) (v3 : Int32), F_X1_pairs_b2 s_o x1 x2 n v3 = some r → gW p l e rm_X1_pairs s m args below meth c D A 4 (MQ below (QM D (tyL cB cI cJ cZ) (some (.int r)) (w_X1_pairs o cB cI cJ cZ s_o) (w_X1_pairs o cB cI cJ cZ s_o) s.heap.size) args s 0 0 A) (w_X1_pairs o cB cI cJ cZ s_o) [(0, .ref (o 0)), (1, .int x1), (2, .int x2), (3, .int v3)] 2 [] := by
    intro n
    induction n with
    | zero => intro v3 hf; rw [F_X1_pairs_b2] at hf; cases hf
    | succ n ih =>
      intro v3 hf
      rw [F_X1_pairs_b2] at hf
      refine g_iln cx 3 dX1_pairs_2 rfl ?_
      refine g_iln cx 2 dX1_pairs_3 rfl ?_
      refine g_ic_ge (tgt := 34) cx hf dX1_pairs_4 rfl (fun hf => ?_) (fun hf => ?_)
      · refine g_iln cx 2 dX1_pairs_34 rfl ?_
        refine g_if_le (tgt := 42) cx hf dX1_pairs_35 rfl (fun hf => ?_) (fun hf => ?_)
        · refine g_ic cx dX1_pairs_42 k_ic0 ?_
          exact g_zret (ovf := fun (r : Int32) => (some (.int r))) (wf := fun (r : Int32) => (w_X1_pairs o cB cI cJ cZ s_o)) cx hA hr rfl hf rfl rfl dX1_pairs_43
        · refine g_ic cx dX1_pairs_38 k_ic1 ?_
          refine g_goto (tgt := 43) cx dX1_pairs_39 rfl ?_
          exact g_zret (ovf := fun (r : Int32) => (some (.int r))) (wf := fun (r : Int32) => (w_X1_pairs o cB cI cJ cZ s_o)) cx hA hr rfl hf rfl rfl dX1_pairs_43
      · refine g_aln cx 0 dX1_pairs_7 rfl ?_
        refine g_iln cx 1 dX1_pairs_8 rfl ?_
        refine g_iln cx 3 dX1_pairs_9 rfl ?_
        refine ob hf (fun q_2 hq_2 hf => ?_)
        refine g_callViR cx lk_RX1_40 (c_X1_ahead l D cB cI cJ cZ o s_o x1 v3 q_2 hq_2) rfl [0, 1, 2] rfl rfl (ci := 1) (q1 := 0) rfl rfl rfl (Nat.le_of_ble_eq_true rfl) ⟨rfl, rfl, Nat.le_of_ble_eq_true rfl, Nat.le_of_ble_eq_true rfl⟩ dX1_pairs_10 ?_
        refine g_if_ge (tgt := 28) cx hf dX1_pairs_13 rfl (fun hf => ?_) (fun hf => ?_)
        · exact h28 _ ih _ hf
        · refine g_aln cx 0 dX1_pairs_16 rfl ?_
          refine g_iln cx 1 dX1_pairs_17 rfl ?_
          refine g_iln cx 3 dX1_pairs_18 rfl ?_
          refine g_iln cx 2 dX1_pairs_19 rfl ?_
          refine ob hf (fun q_3 hq_3 hf => ?_)
          refine g_callViR cx lk_RX1_43 (c_X1_behind l D cB cI cJ cZ o s_o x1 v3 x2 q_3 hq_3) rfl [0, 1, 2] rfl rfl (ci := 1) (q1 := 0) rfl rfl rfl (Nat.le_of_ble_eq_true rfl) ⟨rfl, rfl, Nat.le_of_ble_eq_true rfl, Nat.le_of_ble_eq_true rfl⟩ dX1_pairs_20 ?_
          refine g_if_ge (tgt := 28) cx hf dX1_pairs_23 rfl (fun hf => ?_) (fun hf => ?_)
          · exact h28 _ ih _ hf
          · refine g_ic cx dX1_pairs_26 k_ic0 ?_
            exact g_zret (ovf := fun (r : Int32) => (some (.int r))) (wf := fun (r : Int32) => (w_X1_pairs o cB cI cJ cZ s_o)) cx hA hr rfl hf rfl rfl dX1_pairs_27
  rw [F_X1_pairs] at hf
  refine g_ic cx dX1_pairs_0 k_ic0 ?_
  refine g_isn cx (L2 := fun v3_4 => [(3, .int v3_4), (0, .ref (o 0)), (1, .int x1), (2, .int x2)]) hf dX1_pairs_1 (Nat.le_of_ble_eq_true rfl) (fun _ => rfl) (fun v3_4 hf => ?_)
  refine g_sub [1, 2, 3, 0] rfl ?_
  exact h2 fu _ hf
theorem dX7_wipe_0 : decode cX7_wipe 0 = .ok (.aload_n 0, 1) := by decide +kernel
theorem dX7_wipe_1 : decode cX7_wipe 1 = .ok (.getfield 12, 3) := by decide +kernel
theorem dX7_wipe_4 : decode cX7_wipe 4 = .ok (.invokevirtual 41, 3) := by decide +kernel
theorem dX7_wipe_7 : decode cX7_wipe 7 = .ok (.aload_n 0, 1) := by decide +kernel
theorem dX7_wipe_8 : decode cX7_wipe 8 = .ok (.getfield 21, 3) := by decide +kernel
theorem dX7_wipe_11 : decode cX7_wipe 11 = .ok (.invokevirtual 44, 3) := by decide +kernel
theorem dX7_wipe_14 : decode cX7_wipe 14 = .ok (.aload_n 0, 1) := by decide +kernel
theorem dX7_wipe_15 : decode cX7_wipe 15 = .ok (.getfield 30, 3) := by decide +kernel
theorem dX7_wipe_18 : decode cX7_wipe 18 = .ok (.invokevirtual 45, 3) := by decide +kernel
theorem dX7_wipe_21 : decode cX7_wipe 21 = .ok (.aload_n 0, 1) := by decide +kernel
theorem dX7_wipe_22 : decode cX7_wipe 22 = .ok (.getfield 34, 3) := by decide +kernel
theorem dX7_wipe_25 : decode cX7_wipe 25 = .ok (.invokevirtual 45, 3) := by decide +kernel
theorem dX7_wipe_28 : decode cX7_wipe 28 = .ok (.aload_n 0, 1) := by decide +kernel
theorem dX7_wipe_29 : decode cX7_wipe 29 = .ok (.getfield 37, 3) := by decide +kernel
theorem dX7_wipe_32 : decode cX7_wipe 32 = .ok (.iconst 0, 1) := by decide +kernel
theorem dX7_wipe_33 : decode cX7_wipe 33 = .ok (.invokestatic 46, 3) := by decide +kernel
theorem dX7_wipe_36 : decode cX7_wipe 36 = .ok (.return_, 1) := by decide +kernel
theorem q1_14 : Cond.initialized RJ7 ∈ TT := tq1 14 rfl rfl
theorem q1_197 : Cond.fieldLink RX7 12 "RhymeLaw$Tale" "words" "LRhymeLaw$Words;" ∈ TT := tq1 197 rfl rfl
theorem q1_204 : Cond.fieldLink RX7 21 "RhymeLaw$Tale" "forms" "LRhymeLaw$Forms;" ∈ TT := tq1 204 rfl rfl
theorem q1_211 : Cond.fieldLink RX7 30 "RhymeLaw$Tale" "paper" "LRhymeLaw$Paper;" ∈ TT := tq1 211 rfl rfl
theorem q1_216 : Cond.fieldLink RX7 34 "RhymeLaw$Tale" "stock" "LRhymeLaw$Paper;" ∈ TT := tq1 216 rfl rfl
theorem q1_220 : Cond.fieldLink RX7 37 "RhymeLaw$Tale" "metres" "[I" ∈ TT := tq1 220 rfl rfl
theorem q2_60 : Cond.methodLink RX7 41 yX10_wipe ∈ TT := tq2 60 rfl rfl
theorem q2_61 : Cond.instanceMethod yX10_wipe ∈ TT := tq2 61 rfl rfl
theorem q2_62 : Cond.selects RX10 yX10_wipe yX10_wipe ∈ TT := tq2 62 rfl rfl
theorem q2_63 : Cond.code yX10_wipe cX10_wipe 1 none ∈ TT := tq2 63 rfl rfl
theorem q2_64 : Cond.methodLink RX7 44 yX1_wipe ∈ TT := tq2 64 rfl rfl
theorem q2_65 : Cond.instanceMethod yX1_wipe ∈ TT := tq2 65 rfl rfl
theorem q2_66 : Cond.selects RX1 yX1_wipe yX1_wipe ∈ TT := tq2 66 rfl rfl
theorem q2_67 : Cond.code yX1_wipe cX1_wipe 1 none ∈ TT := tq2 67 rfl rfl
theorem q2_68 : Cond.methodLink RX7 45 yX4_wipe ∈ TT := tq2 68 rfl rfl
theorem q2_69 : Cond.instanceMethod yX4_wipe ∈ TT := tq2 69 rfl rfl
theorem q2_70 : Cond.selects RX4 yX4_wipe yX4_wipe ∈ TT := tq2 70 rfl rfl
theorem q2_71 : Cond.code yX4_wipe cX4_wipe 1 none ∈ TT := tq2 71 rfl rfl
theorem q2_72 : Cond.methodLink RX7 46 yJ7_fill_53178 ∈ TT := tq2 72 rfl rfl
theorem q2_73 : Cond.static yJ7_fill_53178 ∈ TT := tq2 73 rfl rfl
theorem q2_74 : Cond.code yJ7_fill_53178 cJ7_fill_53178 4 none ∈ TT := tq2 74 rfl rfl
theorem fg_RX7_12 {p : Program} {l : Launch} {e : Env} {R : Room} {s : State} {m : MethodId} {args : Array Value} {below : List Frame} {meth : Method} {c : Code} {D : va_G} {tys : List (ClassId × FieldType)} {A : Nat → Prop} {nL : Nat} {Q : State → Prop} {cc : ByteArray} {ws : va_W} {L : List (Nat × Value)} {pc : Nat} {stk : List Value} (cx : gX p s m args meth c cc nL RX7 D tys A) {a : Nat} {fs : List Value} {v : Value} (q0 : Nat) (he : ws[q0]? = some (a, .inr (5, fs))) (hv : fs[0]? = some v) (hd : decode cc pc = .ok (.getfield 12, 3)) (kk : gW p l e R s m args below meth c D A nL Q ws L (pc + 3) (v :: stk)) : gW p l e R s m args below meth c D A nL Q ws L pc (.ref a :: stk) :=
  g_get cx (C := RX7) (T := TX7) (N := 5) inT7 rfl 0 (Nat.le_of_ble_eq_true rfl) q1_197 rfl q0 he hv hd kk
theorem lk_RX7_41 : vlk RX7 41 yX10_wipe cX10_wipe 1 none 0 := ⟨List.forall_mem_cons.mpr ⟨q2_60, List.forall_mem_cons.mpr ⟨q2_61, List.forall_mem_cons.mpr ⟨q2_62, List.forall_mem_cons.mpr ⟨q1_10, fun _ h => absurd h List.not_mem_nil⟩⟩⟩⟩, q2_63, by decide, by decide, by decide +kernel⟩
theorem fg_RX7_21 {p : Program} {l : Launch} {e : Env} {R : Room} {s : State} {m : MethodId} {args : Array Value} {below : List Frame} {meth : Method} {c : Code} {D : va_G} {tys : List (ClassId × FieldType)} {A : Nat → Prop} {nL : Nat} {Q : State → Prop} {cc : ByteArray} {ws : va_W} {L : List (Nat × Value)} {pc : Nat} {stk : List Value} (cx : gX p s m args meth c cc nL RX7 D tys A) {a : Nat} {fs : List Value} {v : Value} (q0 : Nat) (he : ws[q0]? = some (a, .inr (5, fs))) (hv : fs[1]? = some v) (hd : decode cc pc = .ok (.getfield 21, 3)) (kk : gW p l e R s m args below meth c D A nL Q ws L (pc + 3) (v :: stk)) : gW p l e R s m args below meth c D A nL Q ws L pc (.ref a :: stk) :=
  g_get cx (C := RX7) (T := TX7) (N := 5) inT7 rfl 1 (Nat.le_of_ble_eq_true rfl) q1_204 rfl q0 he hv hd kk
theorem lk_RX7_44 : vlk RX7 44 yX1_wipe cX1_wipe 1 none 0 := ⟨List.forall_mem_cons.mpr ⟨q2_64, List.forall_mem_cons.mpr ⟨q2_65, List.forall_mem_cons.mpr ⟨q2_66, List.forall_mem_cons.mpr ⟨q1_11, fun _ h => absurd h List.not_mem_nil⟩⟩⟩⟩, q2_67, by decide, by decide, by decide +kernel⟩
theorem fg_RX7_30 {p : Program} {l : Launch} {e : Env} {R : Room} {s : State} {m : MethodId} {args : Array Value} {below : List Frame} {meth : Method} {c : Code} {D : va_G} {tys : List (ClassId × FieldType)} {A : Nat → Prop} {nL : Nat} {Q : State → Prop} {cc : ByteArray} {ws : va_W} {L : List (Nat × Value)} {pc : Nat} {stk : List Value} (cx : gX p s m args meth c cc nL RX7 D tys A) {a : Nat} {fs : List Value} {v : Value} (q0 : Nat) (he : ws[q0]? = some (a, .inr (5, fs))) (hv : fs[2]? = some v) (hd : decode cc pc = .ok (.getfield 30, 3)) (kk : gW p l e R s m args below meth c D A nL Q ws L (pc + 3) (v :: stk)) : gW p l e R s m args below meth c D A nL Q ws L pc (.ref a :: stk) :=
  g_get cx (C := RX7) (T := TX7) (N := 5) inT7 rfl 2 (Nat.le_of_ble_eq_true rfl) q1_211 rfl q0 he hv hd kk
theorem lk_RX7_45 : vlk RX7 45 yX4_wipe cX4_wipe 1 none 0 := ⟨List.forall_mem_cons.mpr ⟨q2_68, List.forall_mem_cons.mpr ⟨q2_69, List.forall_mem_cons.mpr ⟨q2_70, List.forall_mem_cons.mpr ⟨q1_4, fun _ h => absurd h List.not_mem_nil⟩⟩⟩⟩, q2_71, by decide, by decide, by decide +kernel⟩
theorem fg_RX7_34 {p : Program} {l : Launch} {e : Env} {R : Room} {s : State} {m : MethodId} {args : Array Value} {below : List Frame} {meth : Method} {c : Code} {D : va_G} {tys : List (ClassId × FieldType)} {A : Nat → Prop} {nL : Nat} {Q : State → Prop} {cc : ByteArray} {ws : va_W} {L : List (Nat × Value)} {pc : Nat} {stk : List Value} (cx : gX p s m args meth c cc nL RX7 D tys A) {a : Nat} {fs : List Value} {v : Value} (q0 : Nat) (he : ws[q0]? = some (a, .inr (5, fs))) (hv : fs[3]? = some v) (hd : decode cc pc = .ok (.getfield 34, 3)) (kk : gW p l e R s m args below meth c D A nL Q ws L (pc + 3) (v :: stk)) : gW p l e R s m args below meth c D A nL Q ws L pc (.ref a :: stk) :=
  g_get cx (C := RX7) (T := TX7) (N := 5) inT7 rfl 3 (Nat.le_of_ble_eq_true rfl) q1_216 rfl q0 he hv hd kk
theorem fg_RX7_37 {p : Program} {l : Launch} {e : Env} {R : Room} {s : State} {m : MethodId} {args : Array Value} {below : List Frame} {meth : Method} {c : Code} {D : va_G} {tys : List (ClassId × FieldType)} {A : Nat → Prop} {nL : Nat} {Q : State → Prop} {cc : ByteArray} {ws : va_W} {L : List (Nat × Value)} {pc : Nat} {stk : List Value} (cx : gX p s m args meth c cc nL RX7 D tys A) {a : Nat} {fs : List Value} {v : Value} (q0 : Nat) (he : ws[q0]? = some (a, .inr (5, fs))) (hv : fs[4]? = some v) (hd : decode cc pc = .ok (.getfield 37, 3)) (kk : gW p l e R s m args below meth c D A nL Q ws L (pc + 3) (v :: stk)) : gW p l e R s m args below meth c D A nL Q ws L pc (.ref a :: stk) :=
  g_get cx (C := RX7) (T := TX7) (N := 5) inT7 rfl 4 (Nat.le_of_ble_eq_true rfl) q1_220 rfl q0 he hv hd kk
theorem lk_RX7_46 : slk RX7 46 yJ7_fill_53178 cJ7_fill_53178 4 none 2 := ⟨List.forall_mem_cons.mpr ⟨q2_72, List.forall_mem_cons.mpr ⟨q2_73, List.forall_mem_cons.mpr ⟨q1_14, fun _ h => absurd h List.not_mem_nil⟩⟩⟩, q2_74, by decide, by decide, by decide +kernel⟩
def F_X7_wipe (s_o : S7) (s_o_forms : S1) (s_o_paper : S4) (s_o_stock : S4) (s_o_words : S10) : Option (S7 × S1 × S4 × S4 × S10) := (F_X10_wipe s_o_words).bind fun q_1 => (F_X1_wipe s_o_forms).bind fun q_2 => (F_X4_wipe s_o_paper).bind fun q_3 => (F_X4_wipe s_o_stock).bind fun q_4 => (F_J7_fill_53178 8 (s7_metres s_o) 0).bind fun q_5 => some ((u7_metres s_o q_5), q_2, q_3, q_4, q_1)
def w_X7_wipe (o o_forms o_paper o_stock o_words : Nat → Nat) (cB cI cJ cZ : ClassId) (s_o : S7) (s_o_forms : S1) (s_o_paper : S4) (s_o_stock : S4) (s_o_words : S10) : va_W := [(o 0, .inr (5, [.ref (o_words 0), .ref (o_forms 0), .ref (o_paper 0), .ref (o_stock 0), .ref (o 1)])), (o 1, .inl (cI, 8, .inl (s7_metres s_o))), (o_forms 0, .inr (1, [.ref (o_forms 1), .ref (o_forms 2), .int (s1_size s_o_forms)])), (o_forms 1, .inl (cI, 16, .inl (s1_letters s_o_forms))), (o_forms 2, .inl (cI, 2, .inl (s1_lengths s_o_forms))), (o_paper 0, .inr (4, [.ref (o_paper 1), .ref (o_paper 2), .ref (o_paper 3), .int (s4_most s_o_paper), .int (s4_size s_o_paper)])), (o_paper 1, .inl (cI, 8, .inl (s4_words s_o_paper))), (o_paper 2, .inl (cI, 8, .inl (s4_things s_o_paper))), (o_paper 3, .inl (cI, 8, .inl (s4_befores s_o_paper))), (o_stock 0, .inr (4, [.ref (o_stock 1), .ref (o_stock 2), .ref (o_stock 3), .int (s4_most s_o_stock), .int (s4_size s_o_stock)])), (o_stock 1, .inl (cI, 8, .inl (s4_words s_o_stock))), (o_stock 2, .inl (cI, 8, .inl (s4_things s_o_stock))), (o_stock 3, .inl (cI, 8, .inl (s4_befores s_o_stock))), (o_words 0, .inr (8, [.ref (o_words 1), .ref (o_words 2), .ref (o_words 3), .int (s10_size s_o_words)])), (o_words 1, .inl (cI, 48, .inl (s10_sounds s_o_words))), (o_words 2, .inl (cI, 16, .inl (s10_meanings s_o_words))), (o_words 3, .inl (cI, 16, .inl (s10_syllables s_o_words)))]
abbrev rm_X7_wipe : Room := { frames := 1, cells := 0, slots := 0, locals := 23 }
set_option maxHeartbeats 4000000 in
set_option maxRecDepth 100000 in
theorem c_X7_wipe (l : Launch) (D : va_G) (cB cI cJ cZ : ClassId) (o o_forms o_paper o_stock o_words : Nat → Nat) (s_o : S7) (s_o_forms : S1) (s_o_paper : S4) (s_o_stock : S4) (s_o_words : S10) (r : S7 × S1 × S4 × S4 × S10) (hf : F_X7_wipe s_o s_o_forms s_o_paper s_o_stock s_o_words = some r) : gM l D (tyL cB cI cJ cZ) yX7_wipe cX7_wipe 1 none rm_X7_wipe [.ref (o 0)] (w_X7_wipe o o_forms o_paper o_stock o_words cB cI cJ cZ s_o s_o_forms s_o_paper s_o_stock s_o_words) none (w_X7_wipe o o_forms o_paper o_stock o_words cB cI cJ cZ r.1 r.2.1 r.2.2.1 r.2.2.2.1 r.2.2.2.2) := by
  refine met_of (by decide) (Nat.le_of_ble_eq_true rfl) ?_
  intro p e s m args below meth c A cx hr hA
  show gW p l e rm_X7_wipe s m args below meth c D A 1 _ _ [(0, .ref (o 0))] 0 []
  rw [F_X7_wipe] at hf
  refine g_aln cx 0 dX7_wipe_0 rfl ?_
  refine fg_RX7_12 cx 0 rfl rfl dX7_wipe_1 ?_
  refine ob hf (fun q_1 hq_1 hf => ?_)
  refine g_callVv cx lk_RX7_41 (c_X10_wipe l D cB cI cJ cZ o_words s_o_words q_1 hq_1) rfl [13, 14, 15, 16] rfl rfl (ws' := (w_X7_wipe o o_forms o_paper o_stock o_words cB cI cJ cZ s_o s_o_forms s_o_paper s_o_stock q_1)) rfl rfl (ci := 8) (q1 := 0) rfl rfl rfl (Nat.le_of_ble_eq_true rfl) ⟨rfl, rfl, Nat.le_of_ble_eq_true rfl, Nat.le_of_ble_eq_true rfl⟩ dX7_wipe_4 ?_
  refine g_aln cx 0 dX7_wipe_7 rfl ?_
  refine fg_RX7_21 cx 0 rfl rfl dX7_wipe_8 ?_
  refine ob hf (fun q_2 hq_2 hf => ?_)
  refine g_callVv cx lk_RX7_44 (c_X1_wipe l D cB cI cJ cZ o_forms s_o_forms q_2 hq_2) rfl [2, 3, 4] rfl rfl (ws' := (w_X7_wipe o o_forms o_paper o_stock o_words cB cI cJ cZ s_o q_2 s_o_paper s_o_stock q_1)) rfl rfl (ci := 1) (q1 := 0) rfl rfl rfl (Nat.le_of_ble_eq_true rfl) ⟨rfl, rfl, Nat.le_of_ble_eq_true rfl, Nat.le_of_ble_eq_true rfl⟩ dX7_wipe_11 ?_
  refine g_aln cx 0 dX7_wipe_14 rfl ?_
  refine fg_RX7_30 cx 0 rfl rfl dX7_wipe_15 ?_
  refine ob hf (fun q_3 hq_3 hf => ?_)
  refine g_callVv cx lk_RX7_45 (c_X4_wipe l D cB cI cJ cZ o_paper s_o_paper q_3 hq_3) rfl [5, 6, 7, 8] rfl rfl (ws' := (w_X7_wipe o o_forms o_paper o_stock o_words cB cI cJ cZ s_o q_2 q_3 s_o_stock q_1)) rfl rfl (ci := 4) (q1 := 0) rfl rfl rfl (Nat.le_of_ble_eq_true rfl) ⟨rfl, rfl, Nat.le_of_ble_eq_true rfl, Nat.le_of_ble_eq_true rfl⟩ dX7_wipe_18 ?_
  refine g_aln cx 0 dX7_wipe_21 rfl ?_
  refine fg_RX7_34 cx 0 rfl rfl dX7_wipe_22 ?_
  refine ob hf (fun q_4 hq_4 hf => ?_)
  refine g_callVv cx lk_RX7_45 (c_X4_wipe l D cB cI cJ cZ o_stock s_o_stock q_4 hq_4) rfl [9, 10, 11, 12] rfl rfl (ws' := (w_X7_wipe o o_forms o_paper o_stock o_words cB cI cJ cZ s_o q_2 q_3 q_4 q_1)) rfl rfl (ci := 4) (q1 := 0) rfl rfl rfl (Nat.le_of_ble_eq_true rfl) ⟨rfl, rfl, Nat.le_of_ble_eq_true rfl, Nat.le_of_ble_eq_true rfl⟩ dX7_wipe_25 ?_
  refine g_aln cx 0 dX7_wipe_28 rfl ?_
  refine fg_RX7_37 cx 0 rfl rfl dX7_wipe_29 ?_
  refine g_ic cx dX7_wipe_32 k_ic0 ?_
  refine ob hf (fun q_5 hq_5 hf => ?_)
  refine g_callSv cx lk_RX7_46 (c_J7_fill_53178 l D cB cI cJ cZ (o 1) 8 (s7_metres s_o) 0 q_5 hq_5) rfl [1] rfl rfl (ws' := (w_X7_wipe o o_forms o_paper o_stock o_words cB cI cJ cZ (u7_metres s_o q_5) q_2 q_3 q_4 q_1)) rfl rfl rfl (Nat.le_of_ble_eq_true rfl) ⟨rfl, rfl, Nat.le_of_ble_eq_true rfl, Nat.le_of_ble_eq_true rfl⟩ dX7_wipe_33 ?_
  exact g_vret (ovf := fun (r : S7 × S1 × S4 × S4 × S10) => none) (wf := fun (r : S7 × S1 × S4 × S4 × S10) => (w_X7_wipe o o_forms o_paper o_stock o_words cB cI cJ cZ r.1 r.2.1 r.2.2.1 r.2.2.2.1 r.2.2.2.2)) cx hA hr hf rfl rfl dX7_wipe_36
theorem dX7_metreOf_0 : decode cX7_metreOf 0 = .ok (.aload_n 0, 1) := by decide +kernel
theorem dX7_metreOf_1 : decode cX7_metreOf 1 = .ok (.getfield 37, 3) := by decide +kernel
theorem dX7_metreOf_4 : decode cX7_metreOf 4 = .ok (.iload_n 1, 1) := by decide +kernel
theorem dX7_metreOf_5 : decode cX7_metreOf 5 = .ok (.invokestatic 52, 3) := by decide +kernel
theorem dX7_metreOf_8 : decode cX7_metreOf 8 = .ok (.ireturn, 1) := by decide +kernel
theorem q3_64 : Cond.methodLink RX7 52 yX6_at ∈ TT := tq3 64 rfl rfl
theorem lk_RX7_52 : slk RX7 52 yX6_at cX6_at 2 (some .int) 2 := ⟨List.forall_mem_cons.mpr ⟨q3_64, List.forall_mem_cons.mpr ⟨q2_207, List.forall_mem_cons.mpr ⟨q1_19, fun _ h => absurd h List.not_mem_nil⟩⟩⟩, q2_208, by decide, by decide, by decide +kernel⟩
def F_X7_metreOf (s_o : S7) (x1 : Int32) : Option (Int32) := (F_X6_at 8 (s7_metres s_o) x1).bind fun q_1 => some (q_1)
def w_X7_metreOf (o o_words o_forms o_paper o_stock : Nat → Nat) (cB cI cJ cZ : ClassId) (s_o : S7) : va_W := [(o 0, .inr (5, [.ref (o_words 0), .ref (o_forms 0), .ref (o_paper 0), .ref (o_stock 0), .ref (o 1)])), (o 1, .inl (cI, 8, .inl (s7_metres s_o)))]
abbrev rm_X7_metreOf : Room := { frames := 1, cells := 0, slots := 0, locals := 21 }
set_option maxHeartbeats 4000000 in
set_option maxRecDepth 100000 in
theorem c_X7_metreOf (l : Launch) (D : va_G) (cB cI cJ cZ : ClassId) (o o_words o_forms o_paper o_stock : Nat → Nat) (s_o : S7) (x1 : Int32) (r : Int32) (hf : F_X7_metreOf s_o x1 = some r) : gM l D (tyL cB cI cJ cZ) yX7_metreOf cX7_metreOf 2 (some .int) rm_X7_metreOf [.ref (o 0), .int x1] (w_X7_metreOf o o_words o_forms o_paper o_stock cB cI cJ cZ s_o) (some (.int r)) (w_X7_metreOf o o_words o_forms o_paper o_stock cB cI cJ cZ s_o) := by
  refine met_of (by decide) (Nat.le_of_ble_eq_true rfl) ?_
  intro p e s m args below meth c A cx hr hA
  show gW p l e rm_X7_metreOf s m args below meth c D A 2 _ _ [(0, .ref (o 0)), (1, .int x1)] 0 []
  rw [F_X7_metreOf] at hf
  refine g_aln cx 0 dX7_metreOf_0 rfl ?_
  refine fg_RX7_37 cx 0 rfl rfl dX7_metreOf_1 ?_
  refine g_iln cx 1 dX7_metreOf_4 rfl ?_
  refine ob hf (fun q_1 hq_1 hf => ?_)
  refine g_callSiR cx lk_RX7_52 (c_X6_at l D cB cI cJ cZ (o 1) 8 (s7_metres s_o) x1 q_1 hq_1) rfl [1] rfl rfl rfl (Nat.le_of_ble_eq_true rfl) ⟨rfl, rfl, Nat.le_of_ble_eq_true rfl, Nat.le_of_ble_eq_true rfl⟩ dX7_metreOf_5 ?_
  exact g_iret (ovf := fun (r : Int32) => (some (.int r))) (wf := fun (r : Int32) => (w_X7_metreOf o o_words o_forms o_paper o_stock cB cI cJ cZ s_o)) cx hA hr hf rfl rfl dX7_metreOf_8
theorem dX7_setMetre_0 : decode cX7_setMetre 0 = .ok (.aload_n 0, 1) := by decide +kernel
theorem dX7_setMetre_1 : decode cX7_setMetre 1 = .ok (.getfield 37, 3) := by decide +kernel
theorem dX7_setMetre_4 : decode cX7_setMetre 4 = .ok (.iload_n 1, 1) := by decide +kernel
theorem dX7_setMetre_5 : decode cX7_setMetre 5 = .ok (.iload_n 2, 1) := by decide +kernel
theorem dX7_setMetre_6 : decode cX7_setMetre 6 = .ok (.invokestatic 58, 3) := by decide +kernel
theorem dX7_setMetre_9 : decode cX7_setMetre 9 = .ok (.return_, 1) := by decide +kernel
theorem q2_217 : Cond.methodLink RX7 58 yX6_set ∈ TT := tq2 217 rfl rfl
theorem lk_RX7_58 : slk RX7 58 yX6_set cX6_set 3 none 3 := ⟨List.forall_mem_cons.mpr ⟨q2_217, List.forall_mem_cons.mpr ⟨q2_178, List.forall_mem_cons.mpr ⟨q1_19, fun _ h => absurd h List.not_mem_nil⟩⟩⟩, q2_179, by decide, by decide, by decide +kernel⟩
def F_X7_setMetre (s_o : S7) (x1 : Int32) (x2 : Int32) : Option (S7) := (F_X6_set 8 (s7_metres s_o) x1 x2).bind fun q_1 => some ((u7_metres s_o q_1))
def w_X7_setMetre (o o_words o_forms o_paper o_stock : Nat → Nat) (cB cI cJ cZ : ClassId) (s_o : S7) : va_W := [(o 0, .inr (5, [.ref (o_words 0), .ref (o_forms 0), .ref (o_paper 0), .ref (o_stock 0), .ref (o 1)])), (o 1, .inl (cI, 8, .inl (s7_metres s_o)))]
abbrev rm_X7_setMetre : Room := { frames := 1, cells := 0, slots := 0, locals := 22 }
set_option maxHeartbeats 4000000 in
set_option maxRecDepth 100000 in
theorem c_X7_setMetre (l : Launch) (D : va_G) (cB cI cJ cZ : ClassId) (o o_words o_forms o_paper o_stock : Nat → Nat) (s_o : S7) (x1 : Int32) (x2 : Int32) (r : S7) (hf : F_X7_setMetre s_o x1 x2 = some r) : gM l D (tyL cB cI cJ cZ) yX7_setMetre cX7_setMetre 3 none rm_X7_setMetre [.ref (o 0), .int x1, .int x2] (w_X7_setMetre o o_words o_forms o_paper o_stock cB cI cJ cZ s_o) none (w_X7_setMetre o o_words o_forms o_paper o_stock cB cI cJ cZ r) := by
  refine met_of (by decide) (Nat.le_of_ble_eq_true rfl) ?_
  intro p e s m args below meth c A cx hr hA
  show gW p l e rm_X7_setMetre s m args below meth c D A 3 _ _ [(0, .ref (o 0)), (1, .int x1), (2, .int x2)] 0 []
  rw [F_X7_setMetre] at hf
  refine g_aln cx 0 dX7_setMetre_0 rfl ?_
  refine fg_RX7_37 cx 0 rfl rfl dX7_setMetre_1 ?_
  refine g_iln cx 1 dX7_setMetre_4 rfl ?_
  refine g_iln cx 2 dX7_setMetre_5 rfl ?_
  refine ob hf (fun q_1 hq_1 hf => ?_)
  refine g_callSv cx lk_RX7_58 (c_X6_set l D cB cI cJ cZ (o 1) 8 (s7_metres s_o) x1 x2 q_1 hq_1) rfl [1] rfl rfl (ws' := (w_X7_setMetre o o_words o_forms o_paper o_stock cB cI cJ cZ (u7_metres s_o q_1))) rfl rfl rfl (Nat.le_of_ble_eq_true rfl) ⟨rfl, rfl, Nat.le_of_ble_eq_true rfl, Nat.le_of_ble_eq_true rfl⟩ dX7_setMetre_6 ?_
  exact g_vret (ovf := fun (r : S7) => none) (wf := fun (r : S7) => (w_X7_setMetre o o_words o_forms o_paper o_stock cB cI cJ cZ r)) cx hA hr hf rfl rfl dX7_setMetre_9
theorem dX7_fits_0 : decode cX7_fits 0 = .ok (.aload_n 0, 1) := by decide +kernel
theorem dX7_fits_1 : decode cX7_fits 1 = .ok (.iload_n 1, 1) := by decide +kernel
theorem dX7_fits_2 : decode cX7_fits 2 = .ok (.invokevirtual 62, 3) := by decide +kernel
theorem dX7_fits_5 : decode cX7_fits 5 = .ok (.istore 4, 2) := by decide +kernel
theorem dX7_fits_7 : decode cX7_fits 7 = .ok (.iload 4, 2) := by decide +kernel
theorem dX7_fits_9 : decode cX7_fits 9 = .ok (.ifCond .eq 18, 3) := by decide +kernel
theorem dX7_fits_12 : decode cX7_fits 12 = .ok (.iload 4, 2) := by decide +kernel
theorem dX7_fits_14 : decode cX7_fits 14 = .ok (.iload_n 3, 1) := by decide +kernel
theorem dX7_fits_15 : decode cX7_fits 15 = .ok (.aload_n 0, 1) := by decide +kernel
theorem dX7_fits_16 : decode cX7_fits 16 = .ok (.getfield 12, 3) := by decide +kernel
theorem dX7_fits_19 : decode cX7_fits 19 = .ok (.iload_n 2, 1) := by decide +kernel
theorem dX7_fits_20 : decode cX7_fits 20 = .ok (.invokevirtual 66, 3) := by decide +kernel
theorem dX7_fits_23 : decode cX7_fits 23 = .ok (.iadd, 1) := by decide +kernel
theorem dX7_fits_24 : decode cX7_fits 24 = .ok (.if_icmp .ne 7, 3) := by decide +kernel
theorem dX7_fits_27 : decode cX7_fits 27 = .ok (.iconst 1, 1) := by decide +kernel
theorem dX7_fits_28 : decode cX7_fits 28 = .ok (.goto 4, 3) := by decide +kernel
theorem dX7_fits_31 : decode cX7_fits 31 = .ok (.iconst 0, 1) := by decide +kernel
theorem dX7_fits_32 : decode cX7_fits 32 = .ok (.ireturn, 1) := by decide +kernel
theorem q1_9 : Cond.initialized RX7 ∈ TT := tq1 9 rfl rfl
theorem q3_41 : Cond.instanceMethod yX10_syllables ∈ TT := tq3 41 rfl rfl
theorem q3_42 : Cond.selects RX10 yX10_syllables yX10_syllables ∈ TT := tq3 42 rfl rfl
theorem q3_43 : Cond.code yX10_syllables cX10_syllables 2 (some .int) ∈ TT := tq3 43 rfl rfl
theorem q3_61 : Cond.instanceMethod yX7_metreOf ∈ TT := tq3 61 rfl rfl
theorem q3_62 : Cond.selects RX7 yX7_metreOf yX7_metreOf ∈ TT := tq3 62 rfl rfl
theorem q3_63 : Cond.code yX7_metreOf cX7_metreOf 2 (some .int) ∈ TT := tq3 63 rfl rfl
theorem q3_133 : Cond.methodLink RX7 62 yX7_metreOf ∈ TT := tq3 133 rfl rfl
theorem q3_134 : Cond.methodLink RX7 66 yX10_syllables ∈ TT := tq3 134 rfl rfl
theorem lk_RX7_62 : vlk RX7 62 yX7_metreOf cX7_metreOf 2 (some .int) 1 := ⟨List.forall_mem_cons.mpr ⟨q3_133, List.forall_mem_cons.mpr ⟨q3_61, List.forall_mem_cons.mpr ⟨q3_62, List.forall_mem_cons.mpr ⟨q1_9, fun _ h => absurd h List.not_mem_nil⟩⟩⟩⟩, q3_63, by decide, by decide, by decide +kernel⟩
theorem lk_RX7_66 : vlk RX7 66 yX10_syllables cX10_syllables 2 (some .int) 1 := ⟨List.forall_mem_cons.mpr ⟨q3_134, List.forall_mem_cons.mpr ⟨q3_41, List.forall_mem_cons.mpr ⟨q3_42, List.forall_mem_cons.mpr ⟨q1_10, fun _ h => absurd h List.not_mem_nil⟩⟩⟩⟩, q3_43, by decide, by decide, by decide +kernel⟩
def F_X7_fits (s_o : S7) (s_o_words : S10) (x1 : Int32) (x2 : Int32) (x3 : Int32) : Option (Int32) := (F_X7_metreOf s_o x1).bind fun q_1 => nm q_1 fun v4_2 => (if v4_2 = 0 then some (1) else (F_X10_syllables s_o_words x2).bind fun q_3 => (if v4_2 = (x3 + q_3) then some (1) else some (0)))
def w_X7_fits (o o_words o_forms o_paper o_stock : Nat → Nat) (cB cI cJ cZ : ClassId) (s_o : S7) (s_o_words : S10) : va_W := [(o 0, .inr (5, [.ref (o_words 0), .ref (o_forms 0), .ref (o_paper 0), .ref (o_stock 0), .ref (o 1)])), (o 1, .inl (cI, 8, .inl (s7_metres s_o))), (o_words 0, .inr (8, [.ref (o_words 1), .ref (o_words 2), .ref (o_words 3), .int (s10_size s_o_words)])), (o_words 1, .inl (cI, 48, .inl (s10_sounds s_o_words))), (o_words 2, .inl (cI, 16, .inl (s10_meanings s_o_words))), (o_words 3, .inl (cI, 16, .inl (s10_syllables s_o_words)))]
abbrev rm_X7_fits : Room := { frames := 2, cells := 0, slots := 0, locals := 42 }
set_option maxHeartbeats 4000000 in
set_option maxRecDepth 100000 in
theorem c_X7_fits (l : Launch) (D : va_G) (cB cI cJ cZ : ClassId) (o o_words o_forms o_paper o_stock : Nat → Nat) (s_o : S7) (s_o_words : S10) (x1 : Int32) (x2 : Int32) (x3 : Int32) (r : Int32) (hf : F_X7_fits s_o s_o_words x1 x2 x3 = some r) : gM l D (tyL cB cI cJ cZ) yX7_fits cX7_fits 5 (some .boolean) rm_X7_fits [.ref (o 0), .int x1, .int x2, .int x3] (w_X7_fits o o_words o_forms o_paper o_stock cB cI cJ cZ s_o s_o_words) (some (.int r)) (w_X7_fits o o_words o_forms o_paper o_stock cB cI cJ cZ s_o s_o_words) := by
  refine met_of (by decide) (Nat.le_of_ble_eq_true rfl) ?_
  intro p e s m args below meth c A cx hr hA
  show gW p l e rm_X7_fits s m args below meth c D A 5 _ _ [(0, .ref (o 0)), (1, .int x1), (2, .int x2), (3, .int x3)] 0 []
  rw [F_X7_fits] at hf
  refine g_aln cx 0 dX7_fits_0 rfl ?_
  refine g_iln cx 1 dX7_fits_1 rfl ?_
  refine ob hf (fun q_1 hq_1 hf => ?_)
  refine g_callViR cx lk_RX7_62 (c_X7_metreOf l D cB cI cJ cZ o o_words o_forms o_paper o_stock s_o x1 q_1 hq_1) rfl [0, 1] rfl rfl (ci := 5) (q1 := 0) rfl rfl rfl (Nat.le_of_ble_eq_true rfl) ⟨rfl, rfl, Nat.le_of_ble_eq_true rfl, Nat.le_of_ble_eq_true rfl⟩ dX7_fits_2 ?_
  refine g_is cx (L2 := fun v4_2 => [(4, .int v4_2), (0, .ref (o 0)), (1, .int x1), (2, .int x2), (3, .int x3)]) hf dX7_fits_5 (Nat.le_of_ble_eq_true rfl) (fun _ => rfl) (fun v4_2 hf => ?_)
  refine g_il cx 0 dX7_fits_7 rfl ?_
  refine g_if_eq (tgt := 27) cx hf dX7_fits_9 rfl (fun hf => ?_) (fun hf => ?_)
  · refine g_ic cx dX7_fits_27 k_ic1 ?_
    refine g_goto (tgt := 32) cx dX7_fits_28 rfl ?_
    exact g_zret (ovf := fun (r : Int32) => (some (.int r))) (wf := fun (r : Int32) => (w_X7_fits o o_words o_forms o_paper o_stock cB cI cJ cZ s_o s_o_words)) cx hA hr rfl hf rfl rfl dX7_fits_32
  · refine g_il cx 0 dX7_fits_12 rfl ?_
    refine g_iln cx 4 dX7_fits_14 rfl ?_
    refine g_aln cx 1 dX7_fits_15 rfl ?_
    refine fg_RX7_12 cx 0 rfl rfl dX7_fits_16 ?_
    refine g_iln cx 3 dX7_fits_19 rfl ?_
    refine ob hf (fun q_3 hq_3 hf => ?_)
    refine g_callViR cx lk_RX7_66 (c_X10_syllables l D cB cI cJ cZ o_words s_o_words x2 q_3 hq_3) rfl [2, 3, 4, 5] rfl rfl (ci := 8) (q1 := 0) rfl rfl rfl (Nat.le_of_ble_eq_true rfl) ⟨rfl, rfl, Nat.le_of_ble_eq_true rfl, Nat.le_of_ble_eq_true rfl⟩ dX7_fits_20 ?_
    refine g_iadd cx dX7_fits_23 ?_
    refine g_ic_ne (tgt := 31) cx hf dX7_fits_24 rfl (fun hf => ?_) (fun hf => ?_)
    · refine g_ic cx dX7_fits_31 k_ic0 ?_
      exact g_zret (ovf := fun (r : Int32) => (some (.int r))) (wf := fun (r : Int32) => (w_X7_fits o o_words o_forms o_paper o_stock cB cI cJ cZ s_o s_o_words)) cx hA hr rfl hf rfl rfl dX7_fits_32
    · refine g_ic cx dX7_fits_27 k_ic1 ?_
      refine g_goto (tgt := 32) cx dX7_fits_28 rfl ?_
      exact g_zret (ovf := fun (r : Int32) => (some (.int r))) (wf := fun (r : Int32) => (w_X7_fits o o_words o_forms o_paper o_stock cB cI cJ cZ s_o s_o_words)) cx hA hr rfl hf rfl rfl dX7_fits_32
end
section
theorem dX9_enter_0 : decode cX9_enter 0 = .ok (.aload_n 0, 1) := by decide +kernel
theorem dX9_enter_1 : decode cX9_enter 1 = .ok (.getfield 9, 3) := by decide +kernel
theorem dX9_enter_4 : decode cX9_enter 4 = .ok (.iload_n 1, 1) := by decide +kernel
theorem dX9_enter_5 : decode cX9_enter 5 = .ok (.iload_n 3, 1) := by decide +kernel
theorem dX9_enter_6 : decode cX9_enter 6 = .ok (.invokestatic 81, 3) := by decide +kernel
theorem dX9_enter_9 : decode cX9_enter 9 = .ok (.aload_n 0, 1) := by decide +kernel
theorem dX9_enter_10 : decode cX9_enter 10 = .ok (.getfield 15, 3) := by decide +kernel
theorem dX9_enter_13 : decode cX9_enter 13 = .ok (.iload_n 1, 1) := by decide +kernel
theorem dX9_enter_14 : decode cX9_enter 14 = .ok (.iload_n 3, 1) := by decide +kernel
theorem dX9_enter_15 : decode cX9_enter 15 = .ok (.iconst 2, 1) := by decide +kernel
theorem dX9_enter_16 : decode cX9_enter 16 = .ok (.if_icmp .ne 8, 3) := by decide +kernel
theorem dX9_enter_19 : decode cX9_enter 19 = .ok (.iload 4, 2) := by decide +kernel
theorem dX9_enter_21 : decode cX9_enter 21 = .ok (.goto 4, 3) := by decide +kernel
theorem dX9_enter_24 : decode cX9_enter 24 = .ok (.iconst (-1), 1) := by decide +kernel
theorem dX9_enter_25 : decode cX9_enter 25 = .ok (.invokestatic 81, 3) := by decide +kernel
theorem dX9_enter_28 : decode cX9_enter 28 = .ok (.iload_n 3, 1) := by decide +kernel
theorem dX9_enter_29 : decode cX9_enter 29 = .ok (.ifCond .eq 12, 3) := by decide +kernel
theorem dX9_enter_32 : decode cX9_enter 32 = .ok (.aload_n 0, 1) := by decide +kernel
theorem dX9_enter_33 : decode cX9_enter 33 = .ok (.getfield 18, 3) := by decide +kernel
theorem dX9_enter_36 : decode cX9_enter 36 = .ok (.iload_n 2, 1) := by decide +kernel
theorem dX9_enter_37 : decode cX9_enter 37 = .ok (.iload_n 1, 1) := by decide +kernel
theorem dX9_enter_38 : decode cX9_enter 38 = .ok (.invokestatic 81, 3) := by decide +kernel
theorem dX9_enter_41 : decode cX9_enter 41 = .ok (.iload_n 3, 1) := by decide +kernel
theorem dX9_enter_42 : decode cX9_enter 42 = .ok (.iconst 2, 1) := by decide +kernel
theorem dX9_enter_43 : decode cX9_enter 43 = .ok (.if_icmp .ne 20, 3) := by decide +kernel
theorem dX9_enter_46 : decode cX9_enter 46 = .ok (.aload_n 0, 1) := by decide +kernel
theorem dX9_enter_47 : decode cX9_enter 47 = .ok (.dup, 1) := by decide +kernel
theorem dX9_enter_48 : decode cX9_enter 48 = .ok (.getfield 30, 3) := by decide +kernel
theorem dX9_enter_51 : decode cX9_enter 51 = .ok (.iconst 1, 1) := by decide +kernel
theorem dX9_enter_52 : decode cX9_enter 52 = .ok (.iload_n 1, 1) := by decide +kernel
theorem dX9_enter_53 : decode cX9_enter 53 = .ok (.ishl, 1) := by decide +kernel
theorem dX9_enter_54 : decode cX9_enter 54 = .ok (.iconst 1, 1) := by decide +kernel
theorem dX9_enter_55 : decode cX9_enter 55 = .ok (.iload 4, 2) := by decide +kernel
theorem dX9_enter_57 : decode cX9_enter 57 = .ok (.ishl, 1) := by decide +kernel
theorem dX9_enter_58 : decode cX9_enter 58 = .ok (.ior, 1) := by decide +kernel
theorem dX9_enter_59 : decode cX9_enter 59 = .ok (.ior, 1) := by decide +kernel
theorem dX9_enter_60 : decode cX9_enter 60 = .ok (.putfield 30, 3) := by decide +kernel
theorem dX9_enter_63 : decode cX9_enter 63 = .ok (.return_, 1) := by decide +kernel
theorem q1_58 : Cond.fieldLink RX9 9 "RhymeLaw$Verdict" "states" "[I" ∈ TT := tq1 58 rfl rfl
theorem q1_59 : Cond.fieldLink RX9 15 "RhymeLaw$Verdict" "anchors" "[I" ∈ TT := tq1 59 rfl rfl
theorem q1_60 : Cond.fieldLink RX9 18 "RhymeLaw$Verdict" "latest" "[I" ∈ TT := tq1 60 rfl rfl
theorem q1_62 : Cond.fieldLink RX9 30 "RhymeLaw$Verdict" "binding" "I" ∈ TT := tq1 62 rfl rfl
theorem q3_144 : Cond.methodLink RX9 81 yX6_set ∈ TT := tq3 144 rfl rfl
theorem fg_RX9_30 {p : Program} {l : Launch} {e : Env} {R : Room} {s : State} {m : MethodId} {args : Array Value} {below : List Frame} {meth : Method} {c : Code} {D : va_G} {tys : List (ClassId × FieldType)} {A : Nat → Prop} {nL : Nat} {Q : State → Prop} {cc : ByteArray} {ws : va_W} {L : List (Nat × Value)} {pc : Nat} {stk : List Value} (cx : gX p s m args meth c cc nL RX9 D tys A) {a : Nat} {fs : List Value} {v : Value} (q0 : Nat) (he : ws[q0]? = some (a, .inr (7, fs))) (hv : fs[4]? = some v) (hd : decode cc pc = .ok (.getfield 30, 3)) (kk : gW p l e R s m args below meth c D A nL Q ws L (pc + 3) (v :: stk)) : gW p l e R s m args below meth c D A nL Q ws L pc (.ref a :: stk) :=
  g_get cx (C := RX9) (T := TX9) (N := 5) inT9 rfl 4 (Nat.le_of_ble_eq_true rfl) q1_62 rfl q0 he hv hd kk
theorem fp_RX9_30 {p : Program} {l : Launch} {e : Env} {R : Room} {s : State} {m : MethodId} {args : Array Value} {below : List Frame} {meth : Method} {c : Code} {D : va_G} {tys : List (ClassId × FieldType)} {A : Nat → Prop} {nL : Nat} {Q : State → Prop} {cc : ByteArray} {ws : va_W} {L : List (Nat × Value)} {pc : Nat} {stk : List Value} (cx : gX p s m args meth c cc nL RX9 D tys A) {a : Nat} {fs : List Value} {x : Int32} (q0 : Nat) (he : ws[q0]? = some (a, .inr (7, fs))) (hl : 4 < fs.length) {ws' : va_W} (hw : ws.set q0 (a, .inr (7, fs.set 4 (.int x))) = ws') (hd : decode cc pc = .ok (.putfield 30, 3)) (kk : gW p l e R s m args below meth c D A nL Q ws' L (pc + 3) stk) : gW p l e R s m args below meth c D A nL Q ws L pc (.int x :: .ref a :: stk) :=
  g_put cx (C := RX9) (T := TX9) (N := 5) (ty0 := tyX9) (ty := .int) inT9 tyX9_ok nmX9 rfl 4 (Nat.le_of_ble_eq_true rfl) q1_62 rfl rfl rfl rfl rfl q0 he hl hw hd kk
theorem lk_RX9_81 : slk RX9 81 yX6_set cX6_set 3 none 3 := ⟨List.forall_mem_cons.mpr ⟨q3_144, List.forall_mem_cons.mpr ⟨q2_178, List.forall_mem_cons.mpr ⟨q1_19, fun _ h => absurd h List.not_mem_nil⟩⟩⟩, q2_179, by decide, by decide, by decide +kernel⟩
theorem fg_RX9_18 {p : Program} {l : Launch} {e : Env} {R : Room} {s : State} {m : MethodId} {args : Array Value} {below : List Frame} {meth : Method} {c : Code} {D : va_G} {tys : List (ClassId × FieldType)} {A : Nat → Prop} {nL : Nat} {Q : State → Prop} {cc : ByteArray} {ws : va_W} {L : List (Nat × Value)} {pc : Nat} {stk : List Value} (cx : gX p s m args meth c cc nL RX9 D tys A) {a : Nat} {fs : List Value} {v : Value} (q0 : Nat) (he : ws[q0]? = some (a, .inr (7, fs))) (hv : fs[2]? = some v) (hd : decode cc pc = .ok (.getfield 18, 3)) (kk : gW p l e R s m args below meth c D A nL Q ws L (pc + 3) (v :: stk)) : gW p l e R s m args below meth c D A nL Q ws L pc (.ref a :: stk) :=
  g_get cx (C := RX9) (T := TX9) (N := 5) inT9 rfl 2 (Nat.le_of_ble_eq_true rfl) q1_60 rfl q0 he hv hd kk
theorem fg_RX9_9 {p : Program} {l : Launch} {e : Env} {R : Room} {s : State} {m : MethodId} {args : Array Value} {below : List Frame} {meth : Method} {c : Code} {D : va_G} {tys : List (ClassId × FieldType)} {A : Nat → Prop} {nL : Nat} {Q : State → Prop} {cc : ByteArray} {ws : va_W} {L : List (Nat × Value)} {pc : Nat} {stk : List Value} (cx : gX p s m args meth c cc nL RX9 D tys A) {a : Nat} {fs : List Value} {v : Value} (q0 : Nat) (he : ws[q0]? = some (a, .inr (7, fs))) (hv : fs[0]? = some v) (hd : decode cc pc = .ok (.getfield 9, 3)) (kk : gW p l e R s m args below meth c D A nL Q ws L (pc + 3) (v :: stk)) : gW p l e R s m args below meth c D A nL Q ws L pc (.ref a :: stk) :=
  g_get cx (C := RX9) (T := TX9) (N := 5) inT9 rfl 0 (Nat.le_of_ble_eq_true rfl) q1_58 rfl q0 he hv hd kk
theorem fg_RX9_15 {p : Program} {l : Launch} {e : Env} {R : Room} {s : State} {m : MethodId} {args : Array Value} {below : List Frame} {meth : Method} {c : Code} {D : va_G} {tys : List (ClassId × FieldType)} {A : Nat → Prop} {nL : Nat} {Q : State → Prop} {cc : ByteArray} {ws : va_W} {L : List (Nat × Value)} {pc : Nat} {stk : List Value} (cx : gX p s m args meth c cc nL RX9 D tys A) {a : Nat} {fs : List Value} {v : Value} (q0 : Nat) (he : ws[q0]? = some (a, .inr (7, fs))) (hv : fs[1]? = some v) (hd : decode cc pc = .ok (.getfield 15, 3)) (kk : gW p l e R s m args below meth c D A nL Q ws L (pc + 3) (v :: stk)) : gW p l e R s m args below meth c D A nL Q ws L pc (.ref a :: stk) :=
  g_get cx (C := RX9) (T := TX9) (N := 5) inT9 rfl 1 (Nat.le_of_ble_eq_true rfl) q1_59 rfl q0 he hv hd kk
def F_X9_enter_b41 (x1 : Int32) (x2 : Int32) (x3 : Int32) (x4 : Int32) (zs_o : S9) : Option (S9) := (if x3 = 2 then nm (u9_binding zs_o ((s9_binding zs_o) ||| ((1 <<< (x1 &&& 31)) ||| (1 <<< (x4 &&& 31))))) fun s_o_1 => some (s_o_1) else some (zs_o))
def F_X9_enter_b25 (x1 : Int32) (x2 : Int32) (x3 : Int32) (x4 : Int32) (zs_o : S9) (k1 : Int32) (k2 : Int32) : Option (S9) := (F_X6_set 8 (s9_anchors zs_o) k1 k2).bind fun q_2 => (if x3 = 0 then F_X9_enter_b41 x1 x2 x3 x4 (u9_anchors zs_o q_2) else (F_X6_set 8 (s9_latest (u9_anchors zs_o q_2)) x2 x1).bind fun q_3 => F_X9_enter_b41 x1 x2 x3 x4 (u9_latest (u9_anchors zs_o q_2) q_3))
def F_X9_enter (s_o : S9) (x1 : Int32) (x2 : Int32) (x3 : Int32) (x4 : Int32) : Option (S9) := (F_X6_set 8 (s9_states s_o) x1 x3).bind fun q_4 => (if x3 = 2 then F_X9_enter_b25 x1 x2 x3 x4 (u9_states s_o q_4) x1 x4 else F_X9_enter_b25 x1 x2 x3 x4 (u9_states s_o q_4) x1 (-1))
def w_X9_enter (o : Nat → Nat) (cB cI cJ cZ : ClassId) (s_o : S9) : va_W := [(o 0, .inr (7, [.ref (o 1), .ref (o 2), .ref (o 3), .int (s9_size s_o), .int (s9_binding s_o)])), (o 1, .inl (cI, 8, .inl (s9_states s_o))), (o 2, .inl (cI, 8, .inl (s9_anchors s_o))), (o 3, .inl (cI, 8, .inl (s9_latest s_o)))]
abbrev rm_X9_enter : Room := { frames := 1, cells := 0, slots := 0, locals := 22 }
set_option maxHeartbeats 4000000 in
set_option maxRecDepth 100000 in
theorem c_X9_enter (l : Launch) (D : va_G) (cB cI cJ cZ : ClassId) (o : Nat → Nat) (s_o : S9) (x1 : Int32) (x2 : Int32) (x3 : Int32) (x4 : Int32) (r : S9) (hf : F_X9_enter s_o x1 x2 x3 x4 = some r) : gM l D (tyL cB cI cJ cZ) yX9_enter cX9_enter 5 none rm_X9_enter [.ref (o 0), .int x1, .int x2, .int x3, .int x4] (w_X9_enter o cB cI cJ cZ s_o) none (w_X9_enter o cB cI cJ cZ r) := by
  refine met_of (by decide) (Nat.le_of_ble_eq_true rfl) ?_
  intro p e s m args below meth c A cx hr hA
  show gW p l e rm_X9_enter s m args below meth c D A 5 _ _ [(0, .ref (o 0)), (1, .int x1), (2, .int x2), (3, .int x3), (4, .int x4)] 0 []
  have h41 : ∀ (zs_o : S9), F_X9_enter_b41 x1 x2 x3 x4 zs_o = some r → gW p l e rm_X9_enter s m args below meth c D A 5 (MQ below (QM D (tyL cB cI cJ cZ) none (w_X9_enter o cB cI cJ cZ s_o) (w_X9_enter o cB cI cJ cZ r) s.heap.size) args s 0 0 A) (w_X9_enter o cB cI cJ cZ zs_o) [(0, .ref (o 0)), (1, .int x1), (3, .int x3), (4, .int x4)] 41 [] := by
    intro zs_o hf
    rw [F_X9_enter_b41] at hf
    refine g_iln cx 2 dX9_enter_41 rfl ?_
    refine g_ic cx dX9_enter_42 k_ic2 ?_
    refine g_ic_ne (tgt := 63) cx hf dX9_enter_43 rfl (fun hf => ?_) (fun hf => ?_)
    · exact g_vret (ovf := fun (r : S9) => none) (wf := fun (r : S9) => (w_X9_enter o cB cI cJ cZ r)) cx hA hr hf rfl rfl dX9_enter_63
    · refine g_aln cx 0 dX9_enter_46 rfl ?_
      refine g_dup cx dX9_enter_47 rfl ?_
      refine fg_RX9_30 cx 0 rfl rfl dX9_enter_48 ?_
      refine g_ic cx dX9_enter_51 k_ic1 ?_
      refine g_iln cx 1 dX9_enter_52 rfl ?_
      refine g_ishl cx dX9_enter_53 ?_
      refine g_ic cx dX9_enter_54 k_ic1 ?_
      refine g_il cx 3 dX9_enter_55 rfl ?_
      refine g_ishl cx dX9_enter_57 ?_
      refine g_ior cx dX9_enter_58 ?_
      refine g_ior cx dX9_enter_59 ?_
      refine fp_RX9_30 cx 0 rfl (Nat.le_of_ble_eq_true rfl) (ws' := (w_X9_enter o cB cI cJ cZ (u9_binding zs_o ((s9_binding zs_o) ||| ((1 <<< (x1 &&& 31)) ||| (1 <<< (x4 &&& 31))))))) rfl dX9_enter_60 ?_
      refine g_nm (w := fun s_o_1 => (w_X9_enter o cB cI cJ cZ s_o_1)) hf (fun s_o_1 hf => ?_)
      exact g_vret (ovf := fun (r : S9) => none) (wf := fun (r : S9) => (w_X9_enter o cB cI cJ cZ r)) cx hA hr hf rfl rfl dX9_enter_63
  have h25 : ∀ (zs_o : S9) (k1 : Int32) (k2 : Int32), F_X9_enter_b25 x1 x2 x3 x4 zs_o k1 k2 = some r → gW p l e rm_X9_enter s m args below meth c D A 5 (MQ below (QM D (tyL cB cI cJ cZ) none (w_X9_enter o cB cI cJ cZ s_o) (w_X9_enter o cB cI cJ cZ r) s.heap.size) args s 0 0 A) (w_X9_enter o cB cI cJ cZ zs_o) [(0, .ref (o 0)), (1, .int x1), (2, .int x2), (3, .int x3), (4, .int x4)] 25 [.int k2, .int k1, .ref (o 2)] := by
    intro zs_o k1 k2 hf
    rw [F_X9_enter_b25] at hf
    refine ob hf (fun q_2 hq_2 hf => ?_)
    refine g_callSv cx lk_RX9_81 (c_X6_set l D cB cI cJ cZ (o 2) 8 (s9_anchors zs_o) k1 k2 q_2 hq_2) rfl [2] rfl rfl (ws' := (w_X9_enter o cB cI cJ cZ (u9_anchors zs_o q_2))) rfl rfl rfl (Nat.le_of_ble_eq_true rfl) ⟨rfl, rfl, Nat.le_of_ble_eq_true rfl, Nat.le_of_ble_eq_true rfl⟩ dX9_enter_25 ?_
    refine g_iln cx 3 dX9_enter_28 rfl ?_
    refine g_if_eq (tgt := 41) cx hf dX9_enter_29 rfl (fun hf => ?_) (fun hf => ?_)
    · refine g_sub [0, 1, 3, 4] rfl ?_
      exact h41 _ hf
    · refine g_aln cx 0 dX9_enter_32 rfl ?_
      refine fg_RX9_18 cx 0 rfl rfl dX9_enter_33 ?_
      refine g_iln cx 2 dX9_enter_36 rfl ?_
      refine g_iln cx 1 dX9_enter_37 rfl ?_
      refine ob hf (fun q_3 hq_3 hf => ?_)
      refine g_callSv cx lk_RX9_81 (c_X6_set l D cB cI cJ cZ (o 3) 8 (s9_latest (u9_anchors zs_o q_2)) x2 x1 q_3 hq_3) rfl [3] rfl rfl (ws' := (w_X9_enter o cB cI cJ cZ (u9_latest (u9_anchors zs_o q_2) q_3))) rfl rfl rfl (Nat.le_of_ble_eq_true rfl) ⟨rfl, rfl, Nat.le_of_ble_eq_true rfl, Nat.le_of_ble_eq_true rfl⟩ dX9_enter_38 ?_
      refine g_sub [0, 1, 3, 4] rfl ?_
      exact h41 _ hf
  rw [F_X9_enter] at hf
  refine g_aln cx 0 dX9_enter_0 rfl ?_
  refine fg_RX9_9 cx 0 rfl rfl dX9_enter_1 ?_
  refine g_iln cx 1 dX9_enter_4 rfl ?_
  refine g_iln cx 3 dX9_enter_5 rfl ?_
  refine ob hf (fun q_4 hq_4 hf => ?_)
  refine g_callSv cx lk_RX9_81 (c_X6_set l D cB cI cJ cZ (o 1) 8 (s9_states s_o) x1 x3 q_4 hq_4) rfl [1] rfl rfl (ws' := (w_X9_enter o cB cI cJ cZ (u9_states s_o q_4))) rfl rfl rfl (Nat.le_of_ble_eq_true rfl) ⟨rfl, rfl, Nat.le_of_ble_eq_true rfl, Nat.le_of_ble_eq_true rfl⟩ dX9_enter_6 ?_
  refine g_aln cx 0 dX9_enter_9 rfl ?_
  refine fg_RX9_15 cx 0 rfl rfl dX9_enter_10 ?_
  refine g_iln cx 1 dX9_enter_13 rfl ?_
  refine g_iln cx 3 dX9_enter_14 rfl ?_
  refine g_ic cx dX9_enter_15 k_ic2 ?_
  refine g_ic_ne (tgt := 24) cx hf dX9_enter_16 rfl (fun hf => ?_) (fun hf => ?_)
  · refine g_ic cx dX9_enter_24 k_icm1 ?_
    exact h25 _ _ _ hf
  · refine g_il cx 4 dX9_enter_19 rfl ?_
    refine g_goto (tgt := 25) cx dX9_enter_21 rfl ?_
    exact h25 _ _ _ hf
theorem dX9_judge_0 : decode cX9_judge 0 = .ok (.aload_n 0, 1) := by decide +kernel
theorem dX9_judge_1 : decode cX9_judge 1 = .ok (.aload_n 2, 1) := by decide +kernel
theorem dX9_judge_2 : decode cX9_judge 2 = .ok (.invokevirtual 21, 3) := by decide +kernel
theorem dX9_judge_5 : decode cX9_judge 5 = .ok (.putfield 27, 3) := by decide +kernel
theorem dX9_judge_8 : decode cX9_judge 8 = .ok (.aload_n 0, 1) := by decide +kernel
theorem dX9_judge_9 : decode cX9_judge 9 = .ok (.iconst 0, 1) := by decide +kernel
theorem dX9_judge_10 : decode cX9_judge 10 = .ok (.putfield 30, 3) := by decide +kernel
theorem dX9_judge_13 : decode cX9_judge 13 = .ok (.aload_n 0, 1) := by decide +kernel
theorem dX9_judge_14 : decode cX9_judge 14 = .ok (.getfield 18, 3) := by decide +kernel
theorem dX9_judge_17 : decode cX9_judge 17 = .ok (.iconst (-1), 1) := by decide +kernel
theorem dX9_judge_18 : decode cX9_judge 18 = .ok (.invokestatic 33, 3) := by decide +kernel
theorem dX9_judge_21 : decode cX9_judge 21 = .ok (.iconst 0, 1) := by decide +kernel
theorem dX9_judge_22 : decode cX9_judge 22 = .ok (.istore 5, 2) := by decide +kernel
theorem dX9_judge_24 : decode cX9_judge 24 = .ok (.iload 5, 2) := by decide +kernel
theorem dX9_judge_26 : decode cX9_judge 26 = .ok (.aload_n 0, 1) := by decide +kernel
theorem dX9_judge_27 : decode cX9_judge 27 = .ok (.getfield 27, 3) := by decide +kernel
theorem dX9_judge_30 : decode cX9_judge 30 = .ok (.if_icmp .ge 106, 3) := by decide +kernel
theorem dX9_judge_33 : decode cX9_judge 33 = .ok (.aload_n 1, 1) := by decide +kernel
theorem dX9_judge_34 : decode cX9_judge 34 = .ok (.getfield 39, 3) := by decide +kernel
theorem dX9_judge_37 : decode cX9_judge 37 = .ok (.iload_n 3, 1) := by decide +kernel
theorem dX9_judge_38 : decode cX9_judge 38 = .ok (.iload 5, 2) := by decide +kernel
theorem dX9_judge_40 : decode cX9_judge 40 = .ok (.invokevirtual 45, 3) := by decide +kernel
theorem dX9_judge_43 : decode cX9_judge 43 = .ok (.istore 6, 2) := by decide +kernel
theorem dX9_judge_45 : decode cX9_judge 45 = .ok (.aload_n 0, 1) := by decide +kernel
theorem dX9_judge_46 : decode cX9_judge 46 = .ok (.getfield 18, 3) := by decide +kernel
theorem dX9_judge_49 : decode cX9_judge 49 = .ok (.iload 6, 2) := by decide +kernel
theorem dX9_judge_51 : decode cX9_judge 51 = .ok (.invokestatic 51, 3) := by decide +kernel
theorem dX9_judge_54 : decode cX9_judge 54 = .ok (.istore 7, 2) := by decide +kernel
theorem dX9_judge_56 : decode cX9_judge 56 = .ok (.iconst 0, 1) := by decide +kernel
theorem dX9_judge_57 : decode cX9_judge 57 = .ok (.istore 8, 2) := by decide +kernel
theorem dX9_judge_59 : decode cX9_judge 59 = .ok (.aload_n 1, 1) := by decide +kernel
theorem dX9_judge_60 : decode cX9_judge 60 = .ok (.iload 6, 2) := by decide +kernel
theorem dX9_judge_62 : decode cX9_judge 62 = .ok (.aload_n 2, 1) := by decide +kernel
theorem dX9_judge_63 : decode cX9_judge 63 = .ok (.iload 5, 2) := by decide +kernel
theorem dX9_judge_65 : decode cX9_judge 65 = .ok (.invokevirtual 57, 3) := by decide +kernel
theorem dX9_judge_68 : decode cX9_judge 68 = .ok (.aload_n 2, 1) := by decide +kernel
theorem dX9_judge_69 : decode cX9_judge 69 = .ok (.iload 5, 2) := by decide +kernel
theorem dX9_judge_71 : decode cX9_judge 71 = .ok (.invokevirtual 61, 3) := by decide +kernel
theorem dX9_judge_74 : decode cX9_judge 74 = .ok (.invokevirtual 64, 3) := by decide +kernel
theorem dX9_judge_77 : decode cX9_judge 77 = .ok (.ifCond .eq 41, 3) := by decide +kernel
theorem dX9_judge_80 : decode cX9_judge 80 = .ok (.iload 7, 2) := by decide +kernel
theorem dX9_judge_82 : decode cX9_judge 82 = .ok (.ifCond .ge 9, 3) := by decide +kernel
theorem dX9_judge_85 : decode cX9_judge 85 = .ok (.iconst 1, 1) := by decide +kernel
theorem dX9_judge_86 : decode cX9_judge 86 = .ok (.istore 8, 2) := by decide +kernel
theorem dX9_judge_88 : decode cX9_judge 88 = .ok (.goto 30, 3) := by decide +kernel
theorem dX9_judge_91 : decode cX9_judge 91 = .ok (.aload_n 1, 1) := by decide +kernel
theorem dX9_judge_92 : decode cX9_judge 92 = .ok (.getfield 68, 3) := by decide +kernel
theorem dX9_judge_95 : decode cX9_judge 95 = .ok (.iload 4, 2) := by decide +kernel
theorem dX9_judge_97 : decode cX9_judge 97 = .ok (.aload_n 2, 1) := by decide +kernel
theorem dX9_judge_98 : decode cX9_judge 98 = .ok (.iload 7, 2) := by decide +kernel
theorem dX9_judge_100 : decode cX9_judge 100 = .ok (.invokevirtual 57, 3) := by decide +kernel
theorem dX9_judge_103 : decode cX9_judge 103 = .ok (.aload_n 2, 1) := by decide +kernel
theorem dX9_judge_104 : decode cX9_judge 104 = .ok (.iload 5, 2) := by decide +kernel
theorem dX9_judge_106 : decode cX9_judge 106 = .ok (.invokevirtual 57, 3) := by decide +kernel
theorem dX9_judge_109 : decode cX9_judge 109 = .ok (.invokevirtual 72, 3) := by decide +kernel
theorem dX9_judge_112 : decode cX9_judge 112 = .ok (.ifCond .eq 6, 3) := by decide +kernel
theorem dX9_judge_115 : decode cX9_judge 115 = .ok (.iconst 2, 1) := by decide +kernel
theorem dX9_judge_116 : decode cX9_judge 116 = .ok (.istore 8, 2) := by decide +kernel
theorem dX9_judge_118 : decode cX9_judge 118 = .ok (.aload_n 0, 1) := by decide +kernel
theorem dX9_judge_119 : decode cX9_judge 119 = .ok (.iload 5, 2) := by decide +kernel
theorem dX9_judge_121 : decode cX9_judge 121 = .ok (.iload 6, 2) := by decide +kernel
theorem dX9_judge_123 : decode cX9_judge 123 = .ok (.iload 8, 2) := by decide +kernel
theorem dX9_judge_125 : decode cX9_judge 125 = .ok (.iload 7, 2) := by decide +kernel
theorem dX9_judge_127 : decode cX9_judge 127 = .ok (.invokevirtual 77, 3) := by decide +kernel
theorem dX9_judge_130 : decode cX9_judge 130 = .ok (.iinc 5 1, 3) := by decide +kernel
theorem dX9_judge_133 : decode cX9_judge 133 = .ok (.goto (-109), 3) := by decide +kernel
theorem dX9_judge_136 : decode cX9_judge 136 = .ok (.return_, 1) := by decide +kernel
theorem q0_5 : Cond.selects RX9 yX9_enter yX9_enter ∈ TT := tq0 5 rfl rfl
theorem q1_3 : Cond.initialized RX9 ∈ TT := tq1 3 rfl rfl
theorem q1_61 : Cond.fieldLink RX9 27 "RhymeLaw$Verdict" "size" "I" ∈ TT := tq1 61 rfl rfl
theorem q1_200 : Cond.fieldLink RX9 68 "RhymeLaw$Tale" "words" "LRhymeLaw$Words;" ∈ TT := tq1 200 rfl rfl
theorem q1_207 : Cond.fieldLink RX9 39 "RhymeLaw$Tale" "forms" "LRhymeLaw$Forms;" ∈ TT := tq1 207 rfl rfl
theorem q3_123 : Cond.methodLink RX9 21 yX4_size ∈ TT := tq3 123 rfl rfl
theorem q3_124 : Cond.methodLink RX9 33 yJ7_fill_53178 ∈ TT := tq3 124 rfl rfl
theorem q3_125 : Cond.methodLink RX9 45 yX1_letter ∈ TT := tq3 125 rfl rfl
theorem q3_126 : Cond.methodLink RX9 51 yX6_at ∈ TT := tq3 126 rfl rfl
theorem q3_127 : Cond.methodLink RX9 57 yX4_wordAt ∈ TT := tq3 127 rfl rfl
theorem q3_128 : Cond.methodLink RX9 61 yX4_beforeAt ∈ TT := tq3 128 rfl rfl
theorem q3_129 : Cond.methodLink RX9 64 yX7_fits ∈ TT := tq3 129 rfl rfl
theorem q3_130 : Cond.instanceMethod yX7_fits ∈ TT := tq3 130 rfl rfl
theorem q3_131 : Cond.selects RX7 yX7_fits yX7_fits ∈ TT := tq3 131 rfl rfl
theorem q3_132 : Cond.code yX7_fits cX7_fits 5 (some .boolean) ∈ TT := tq3 132 rfl rfl
theorem q3_135 : Cond.methodLink RX9 72 yX10_rhyme ∈ TT := tq3 135 rfl rfl
theorem q3_136 : Cond.instanceMethod yX10_rhyme ∈ TT := tq3 136 rfl rfl
theorem q3_137 : Cond.selects RX10 yX10_rhyme yX10_rhyme ∈ TT := tq3 137 rfl rfl
theorem q3_138 : Cond.code yX10_rhyme cX10_rhyme 4 (some .boolean) ∈ TT := tq3 138 rfl rfl
theorem q3_140 : Cond.methodLink RX9 77 yX9_enter ∈ TT := tq3 140 rfl rfl
theorem q3_142 : Cond.instanceMethod yX9_enter ∈ TT := tq3 142 rfl rfl
theorem q3_143 : Cond.code yX9_enter cX9_enter 5 none ∈ TT := tq3 143 rfl rfl
theorem lk_RX9_77 : vlk RX9 77 yX9_enter cX9_enter 5 none 4 := ⟨List.forall_mem_cons.mpr ⟨q3_140, List.forall_mem_cons.mpr ⟨q3_142, List.forall_mem_cons.mpr ⟨q0_5, List.forall_mem_cons.mpr ⟨q1_3, fun _ h => absurd h List.not_mem_nil⟩⟩⟩⟩, q3_143, by decide, by decide, by decide +kernel⟩
theorem fg_RX9_27 {p : Program} {l : Launch} {e : Env} {R : Room} {s : State} {m : MethodId} {args : Array Value} {below : List Frame} {meth : Method} {c : Code} {D : va_G} {tys : List (ClassId × FieldType)} {A : Nat → Prop} {nL : Nat} {Q : State → Prop} {cc : ByteArray} {ws : va_W} {L : List (Nat × Value)} {pc : Nat} {stk : List Value} (cx : gX p s m args meth c cc nL RX9 D tys A) {a : Nat} {fs : List Value} {v : Value} (q0 : Nat) (he : ws[q0]? = some (a, .inr (7, fs))) (hv : fs[3]? = some v) (hd : decode cc pc = .ok (.getfield 27, 3)) (kk : gW p l e R s m args below meth c D A nL Q ws L (pc + 3) (v :: stk)) : gW p l e R s m args below meth c D A nL Q ws L pc (.ref a :: stk) :=
  g_get cx (C := RX9) (T := TX9) (N := 5) inT9 rfl 3 (Nat.le_of_ble_eq_true rfl) q1_61 rfl q0 he hv hd kk
theorem fg_RX9_39 {p : Program} {l : Launch} {e : Env} {R : Room} {s : State} {m : MethodId} {args : Array Value} {below : List Frame} {meth : Method} {c : Code} {D : va_G} {tys : List (ClassId × FieldType)} {A : Nat → Prop} {nL : Nat} {Q : State → Prop} {cc : ByteArray} {ws : va_W} {L : List (Nat × Value)} {pc : Nat} {stk : List Value} (cx : gX p s m args meth c cc nL RX9 D tys A) {a : Nat} {fs : List Value} {v : Value} (q0 : Nat) (he : ws[q0]? = some (a, .inr (5, fs))) (hv : fs[1]? = some v) (hd : decode cc pc = .ok (.getfield 39, 3)) (kk : gW p l e R s m args below meth c D A nL Q ws L (pc + 3) (v :: stk)) : gW p l e R s m args below meth c D A nL Q ws L pc (.ref a :: stk) :=
  g_get cx (C := RX7) (T := TX7) (N := 5) inT7 rfl 1 (Nat.le_of_ble_eq_true rfl) q1_207 rfl q0 he hv hd kk
theorem lk_RX9_45 : vlk RX9 45 yX1_letter cX1_letter 4 (some .int) 2 := ⟨List.forall_mem_cons.mpr ⟨q3_125, List.forall_mem_cons.mpr ⟨q3_53, List.forall_mem_cons.mpr ⟨q3_54, List.forall_mem_cons.mpr ⟨q1_11, fun _ h => absurd h List.not_mem_nil⟩⟩⟩⟩, q3_55, by decide, by decide, by decide +kernel⟩
theorem lk_RX9_51 : slk RX9 51 yX6_at cX6_at 2 (some .int) 2 := ⟨List.forall_mem_cons.mpr ⟨q3_126, List.forall_mem_cons.mpr ⟨q2_207, List.forall_mem_cons.mpr ⟨q1_19, fun _ h => absurd h List.not_mem_nil⟩⟩⟩, q2_208, by decide, by decide, by decide +kernel⟩
theorem lk_RX9_57 : vlk RX9 57 yX4_wordAt cX4_wordAt 2 (some .int) 1 := ⟨List.forall_mem_cons.mpr ⟨q3_127, List.forall_mem_cons.mpr ⟨q3_0, List.forall_mem_cons.mpr ⟨q3_1, List.forall_mem_cons.mpr ⟨q1_4, fun _ h => absurd h List.not_mem_nil⟩⟩⟩⟩, q3_2, by decide, by decide, by decide +kernel⟩
theorem lk_RX9_61 : vlk RX9 61 yX4_beforeAt cX4_beforeAt 2 (some .int) 1 := ⟨List.forall_mem_cons.mpr ⟨q3_128, List.forall_mem_cons.mpr ⟨q3_9, List.forall_mem_cons.mpr ⟨q3_10, List.forall_mem_cons.mpr ⟨q1_4, fun _ h => absurd h List.not_mem_nil⟩⟩⟩⟩, q3_11, by decide, by decide, by decide +kernel⟩
theorem lk_RX9_64 : vlk RX9 64 yX7_fits cX7_fits 5 (some .boolean) 3 := ⟨List.forall_mem_cons.mpr ⟨q3_129, List.forall_mem_cons.mpr ⟨q3_130, List.forall_mem_cons.mpr ⟨q3_131, List.forall_mem_cons.mpr ⟨q1_9, fun _ h => absurd h List.not_mem_nil⟩⟩⟩⟩, q3_132, by decide, by decide, by decide +kernel⟩
theorem fg_RX9_68 {p : Program} {l : Launch} {e : Env} {R : Room} {s : State} {m : MethodId} {args : Array Value} {below : List Frame} {meth : Method} {c : Code} {D : va_G} {tys : List (ClassId × FieldType)} {A : Nat → Prop} {nL : Nat} {Q : State → Prop} {cc : ByteArray} {ws : va_W} {L : List (Nat × Value)} {pc : Nat} {stk : List Value} (cx : gX p s m args meth c cc nL RX9 D tys A) {a : Nat} {fs : List Value} {v : Value} (q0 : Nat) (he : ws[q0]? = some (a, .inr (5, fs))) (hv : fs[0]? = some v) (hd : decode cc pc = .ok (.getfield 68, 3)) (kk : gW p l e R s m args below meth c D A nL Q ws L (pc + 3) (v :: stk)) : gW p l e R s m args below meth c D A nL Q ws L pc (.ref a :: stk) :=
  g_get cx (C := RX7) (T := TX7) (N := 5) inT7 rfl 0 (Nat.le_of_ble_eq_true rfl) q1_200 rfl q0 he hv hd kk
theorem lk_RX9_72 : vlk RX9 72 yX10_rhyme cX10_rhyme 4 (some .boolean) 3 := ⟨List.forall_mem_cons.mpr ⟨q3_135, List.forall_mem_cons.mpr ⟨q3_136, List.forall_mem_cons.mpr ⟨q3_137, List.forall_mem_cons.mpr ⟨q1_10, fun _ h => absurd h List.not_mem_nil⟩⟩⟩⟩, q3_138, by decide, by decide, by decide +kernel⟩
theorem lk_RX9_21 : vlk RX9 21 yX4_size cX4_size 1 (some .int) 0 := ⟨List.forall_mem_cons.mpr ⟨q3_123, List.forall_mem_cons.mpr ⟨q2_231, List.forall_mem_cons.mpr ⟨q2_232, List.forall_mem_cons.mpr ⟨q1_4, fun _ h => absurd h List.not_mem_nil⟩⟩⟩⟩, q2_233, by decide, by decide, by decide +kernel⟩
theorem fp_RX9_27 {p : Program} {l : Launch} {e : Env} {R : Room} {s : State} {m : MethodId} {args : Array Value} {below : List Frame} {meth : Method} {c : Code} {D : va_G} {tys : List (ClassId × FieldType)} {A : Nat → Prop} {nL : Nat} {Q : State → Prop} {cc : ByteArray} {ws : va_W} {L : List (Nat × Value)} {pc : Nat} {stk : List Value} (cx : gX p s m args meth c cc nL RX9 D tys A) {a : Nat} {fs : List Value} {x : Int32} (q0 : Nat) (he : ws[q0]? = some (a, .inr (7, fs))) (hl : 3 < fs.length) {ws' : va_W} (hw : ws.set q0 (a, .inr (7, fs.set 3 (.int x))) = ws') (hd : decode cc pc = .ok (.putfield 27, 3)) (kk : gW p l e R s m args below meth c D A nL Q ws' L (pc + 3) stk) : gW p l e R s m args below meth c D A nL Q ws L pc (.int x :: .ref a :: stk) :=
  g_put cx (C := RX9) (T := TX9) (N := 5) (ty0 := tyX9) (ty := .int) inT9 tyX9_ok nmX9 rfl 3 (Nat.le_of_ble_eq_true rfl) q1_61 rfl rfl rfl rfl rfl q0 he hl hw hd kk
theorem lk_RX9_33 : slk RX9 33 yJ7_fill_53178 cJ7_fill_53178 4 none 2 := ⟨List.forall_mem_cons.mpr ⟨q3_124, List.forall_mem_cons.mpr ⟨q2_73, List.forall_mem_cons.mpr ⟨q1_14, fun _ h => absurd h List.not_mem_nil⟩⟩⟩, q2_74, by decide, by decide, by decide +kernel⟩
def F_X9_judge_b118 (s_a1 : S7) (s_a2 : S4) (s_a1_forms : S1) (s_a1_words : S10) (x3 : Int32) (x4 : Int32) (K24 : Int32 → S9 → Option (S9)) (v5 : Int32) (v6 : Int32) (v7 : Int32) (v8 : Int32) (zs_o : S9) : Option (S9) := (F_X9_enter zs_o v5 v6 v8 v7).bind fun q_1 => nm (v5 + 1) fun v5_2 => K24 v5_2 q_1
def F_X9_judge_b24 (s_a1 : S7) (s_a2 : S4) (s_a1_forms : S1) (s_a1_words : S10) (x3 : Int32) (x4 : Int32) : Nat → Int32 → S9 → Option (S9)
  | 0, _, _ => none
  | n + 1, v5, zs_o => (if (s9_size zs_o) ≤ v5 then some (zs_o) else (F_X1_letter s_a1_forms x3 v5).bind fun q_3 => nm q_3 fun v6_4 => (F_X6_at 8 (s9_latest zs_o) v6_4).bind fun q_5 => nm q_5 fun v7_6 => nm 0 fun v8_7 => (F_X4_wordAt s_a2 v5).bind fun q_8 => (F_X4_beforeAt s_a2 v5).bind fun q_9 => (F_X7_fits s_a1 s_a1_words v6_4 q_8 q_9).bind fun q_10 => (if q_10 = 0 then F_X9_judge_b118 s_a1 s_a2 s_a1_forms s_a1_words x3 x4 (F_X9_judge_b24 s_a1 s_a2 s_a1_forms s_a1_words x3 x4 n) v5 v6_4 v7_6 v8_7 zs_o else (if 0 ≤ v7_6 then (F_X4_wordAt s_a2 v7_6).bind fun q_11 => (F_X4_wordAt s_a2 v5).bind fun q_12 => (F_X10_rhyme s_a1_words x4 q_11 q_12).bind fun q_13 => (if q_13 = 0 then F_X9_judge_b118 s_a1 s_a2 s_a1_forms s_a1_words x3 x4 (F_X9_judge_b24 s_a1 s_a2 s_a1_forms s_a1_words x3 x4 n) v5 v6_4 v7_6 v8_7 zs_o else nm 2 fun v8_14 => F_X9_judge_b118 s_a1 s_a2 s_a1_forms s_a1_words x3 x4 (F_X9_judge_b24 s_a1 s_a2 s_a1_forms s_a1_words x3 x4 n) v5 v6_4 v7_6 v8_14 zs_o) else nm 1 fun v8_15 => F_X9_judge_b118 s_a1 s_a2 s_a1_forms s_a1_words x3 x4 (F_X9_judge_b24 s_a1 s_a2 s_a1_forms s_a1_words x3 x4 n) v5 v6_4 v7_6 v8_15 zs_o)))
def F_X9_judge (s_a1 : S7) (s_a2 : S4) (s_o : S9) (s_a1_forms : S1) (s_a1_words : S10) (x3 : Int32) (x4 : Int32) : Option (S9) := (F_X4_size s_a2).bind fun q_16 => nm (u9_size s_o q_16) fun s_o_17 => nm (u9_binding s_o_17 0) fun s_o_18 => (F_J7_fill_53178 8 (s9_latest s_o_18) (-1)).bind fun q_19 => nm 0 fun v5_20 => F_X9_judge_b24 s_a1 s_a2 s_a1_forms s_a1_words x3 x4 fu v5_20 (u9_latest s_o_18 q_19)
def w_X9_judge (a1 a2 o a1_forms a1_words a1_paper a1_stock : Nat → Nat) (cB cI cJ cZ : ClassId) (s_a1 : S7) (s_a2 : S4) (s_o : S9) (s_a1_forms : S1) (s_a1_words : S10) : va_W := [(a1 0, .inr (5, [.ref (a1_words 0), .ref (a1_forms 0), .ref (a1_paper 0), .ref (a1_stock 0), .ref (a1 1)])), (a1 1, .inl (cI, 8, .inl (s7_metres s_a1))), (a2 0, .inr (4, [.ref (a2 1), .ref (a2 2), .ref (a2 3), .int (s4_most s_a2), .int (s4_size s_a2)])), (a2 1, .inl (cI, 8, .inl (s4_words s_a2))), (a2 2, .inl (cI, 8, .inl (s4_things s_a2))), (a2 3, .inl (cI, 8, .inl (s4_befores s_a2))), (o 0, .inr (7, [.ref (o 1), .ref (o 2), .ref (o 3), .int (s9_size s_o), .int (s9_binding s_o)])), (o 1, .inl (cI, 8, .inl (s9_states s_o))), (o 2, .inl (cI, 8, .inl (s9_anchors s_o))), (o 3, .inl (cI, 8, .inl (s9_latest s_o))), (a1_forms 0, .inr (1, [.ref (a1_forms 1), .ref (a1_forms 2), .int (s1_size s_a1_forms)])), (a1_forms 1, .inl (cI, 16, .inl (s1_letters s_a1_forms))), (a1_forms 2, .inl (cI, 2, .inl (s1_lengths s_a1_forms))), (a1_words 0, .inr (8, [.ref (a1_words 1), .ref (a1_words 2), .ref (a1_words 3), .int (s10_size s_a1_words)])), (a1_words 1, .inl (cI, 48, .inl (s10_sounds s_a1_words))), (a1_words 2, .inl (cI, 16, .inl (s10_meanings s_a1_words))), (a1_words 3, .inl (cI, 16, .inl (s10_syllables s_a1_words)))]
abbrev rm_X9_judge : Room := { frames := 3, cells := 0, slots := 0, locals := 66 }
set_option maxHeartbeats 4000000 in
set_option maxRecDepth 100000 in
theorem c_X9_judge (l : Launch) (D : va_G) (cB cI cJ cZ : ClassId) (a1 a2 o a1_forms a1_words a1_paper a1_stock : Nat → Nat) (s_a1 : S7) (s_a2 : S4) (s_o : S9) (s_a1_forms : S1) (s_a1_words : S10) (x3 : Int32) (x4 : Int32) (r : S9) (hf : F_X9_judge s_a1 s_a2 s_o s_a1_forms s_a1_words x3 x4 = some r) : gM l D (tyL cB cI cJ cZ) yX9_judge cX9_judge 9 none rm_X9_judge [.ref (o 0), .ref (a1 0), .ref (a2 0), .int x3, .int x4] (w_X9_judge a1 a2 o a1_forms a1_words a1_paper a1_stock cB cI cJ cZ s_a1 s_a2 s_o s_a1_forms s_a1_words) none (w_X9_judge a1 a2 o a1_forms a1_words a1_paper a1_stock cB cI cJ cZ s_a1 s_a2 r s_a1_forms s_a1_words) := by
  refine met_of (by decide) (Nat.le_of_ble_eq_true rfl) ?_
  intro p e s m args below meth c A cx hr hA
  show gW p l e rm_X9_judge s m args below meth c D A 9 _ _ [(0, .ref (o 0)), (1, .ref (a1 0)), (2, .ref (a2 0)), (3, .int x3), (4, .int x4)] 0 []
  have h118 : ∀ (K24 : Int32 → S9 → Option (S9)), (∀ (v5 : Int32) (zs_o : S9), K24 v5 zs_o = some r → gW p l e rm_X9_judge s m args below meth c D A 9 (MQ below (QM D (tyL cB cI cJ cZ) none (w_X9_judge a1 a2 o a1_forms a1_words a1_paper a1_stock cB cI cJ cZ s_a1 s_a2 s_o s_a1_forms s_a1_words) (w_X9_judge a1 a2 o a1_forms a1_words a1_paper a1_stock cB cI cJ cZ s_a1 s_a2 r s_a1_forms s_a1_words) s.heap.size) args s 0 0 A) (w_X9_judge a1 a2 o a1_forms a1_words a1_paper a1_stock cB cI cJ cZ s_a1 s_a2 zs_o s_a1_forms s_a1_words) [(0, .ref (o 0)), (1, .ref (a1 0)), (2, .ref (a2 0)), (3, .int x3), (4, .int x4), (5, .int v5)] 24 []) → ∀ (v5 : Int32) (v6 : Int32) (v7 : Int32) (v8 : Int32) (zs_o : S9), F_X9_judge_b118 s_a1 s_a2 s_a1_forms s_a1_words x3 x4 K24 v5 v6 v7 v8 zs_o = some r → gW p l e rm_X9_judge s m args below meth c D A 9 (MQ below (QM D (tyL cB cI cJ cZ) none (w_X9_judge a1 a2 o a1_forms a1_words a1_paper a1_stock cB cI cJ cZ s_a1 s_a2 s_o s_a1_forms s_a1_words) (w_X9_judge a1 a2 o a1_forms a1_words a1_paper a1_stock cB cI cJ cZ s_a1 s_a2 r s_a1_forms s_a1_words) s.heap.size) args s 0 0 A) (w_X9_judge a1 a2 o a1_forms a1_words a1_paper a1_stock cB cI cJ cZ s_a1 s_a2 zs_o s_a1_forms s_a1_words) [(0, .ref (o 0)), (1, .ref (a1 0)), (2, .ref (a2 0)), (3, .int x3), (4, .int x4), (5, .int v5), (6, .int v6), (7, .int v7), (8, .int v8)] 118 [] := by
    intro K24 k24 v5 v6 v7 v8 zs_o hf
    rw [F_X9_judge_b118] at hf
    refine g_aln cx 0 dX9_judge_118 rfl ?_
    refine g_il cx 5 dX9_judge_119 rfl ?_
    refine g_il cx 6 dX9_judge_121 rfl ?_
    refine g_il cx 8 dX9_judge_123 rfl ?_
    refine g_il cx 7 dX9_judge_125 rfl ?_
    refine ob hf (fun q_1 hq_1 hf => ?_)
    refine g_callVv cx lk_RX9_77 (c_X9_enter l D cB cI cJ cZ o zs_o v5 v6 v8 v7 q_1 hq_1) rfl [6, 7, 8, 9] rfl rfl (ws' := (w_X9_judge a1 a2 o a1_forms a1_words a1_paper a1_stock cB cI cJ cZ s_a1 s_a2 q_1 s_a1_forms s_a1_words)) rfl rfl (ci := 7) (q1 := 0) rfl rfl rfl (Nat.le_of_ble_eq_true rfl) ⟨rfl, rfl, Nat.le_of_ble_eq_true rfl, Nat.le_of_ble_eq_true rfl⟩ dX9_judge_127 ?_
    refine g_inc cx (L2 := fun v5_2 => [(5, .int v5_2), (0, .ref (o 0)), (1, .ref (a1 0)), (2, .ref (a2 0)), (3, .int x3), (4, .int x4), (6, .int v6), (7, .int v7), (8, .int v8)]) 5 hf dX9_judge_130 rfl (k_inc1 _) (Nat.le_of_ble_eq_true rfl) (fun _ => rfl) (fun v5_2 hf => ?_)
    refine g_goto (tgt := 24) cx dX9_judge_133 rfl ?_
    refine g_sub [1, 2, 3, 4, 5, 0] rfl ?_
    exact k24 _ _ hf
  have h24 : ∀ (n : Nat) (v5 : Int32) (zs_o : S9), F_X9_judge_b24 s_a1 s_a2 s_a1_forms s_a1_words x3 x4 n v5 zs_o = some r → gW p l e rm_X9_judge s m args below meth c D A 9 (MQ below (QM D (tyL cB cI cJ cZ) none (w_X9_judge a1 a2 o a1_forms a1_words a1_paper a1_stock cB cI cJ cZ s_a1 s_a2 s_o s_a1_forms s_a1_words) (w_X9_judge a1 a2 o a1_forms a1_words a1_paper a1_stock cB cI cJ cZ s_a1 s_a2 r s_a1_forms s_a1_words) s.heap.size) args s 0 0 A) (w_X9_judge a1 a2 o a1_forms a1_words a1_paper a1_stock cB cI cJ cZ s_a1 s_a2 zs_o s_a1_forms s_a1_words) [(0, .ref (o 0)), (1, .ref (a1 0)), (2, .ref (a2 0)), (3, .int x3), (4, .int x4), (5, .int v5)] 24 [] := by
    intro n
    induction n with
    | zero => intro v5 zs_o hf; rw [F_X9_judge_b24] at hf; cases hf
    | succ n ih =>
      intro v5 zs_o hf
      rw [F_X9_judge_b24] at hf
      refine g_il cx 5 dX9_judge_24 rfl ?_
      refine g_aln cx 0 dX9_judge_26 rfl ?_
      refine fg_RX9_27 cx 6 rfl rfl dX9_judge_27 ?_
      refine g_ic_ge (tgt := 136) cx hf dX9_judge_30 rfl (fun hf => ?_) (fun hf => ?_)
      · exact g_vret (ovf := fun (r : S9) => none) (wf := fun (r : S9) => (w_X9_judge a1 a2 o a1_forms a1_words a1_paper a1_stock cB cI cJ cZ s_a1 s_a2 r s_a1_forms s_a1_words)) cx hA hr hf rfl rfl dX9_judge_136
      · refine g_aln cx 1 dX9_judge_33 rfl ?_
        refine fg_RX9_39 cx 0 rfl rfl dX9_judge_34 ?_
        refine g_iln cx 3 dX9_judge_37 rfl ?_
        refine g_il cx 5 dX9_judge_38 rfl ?_
        refine ob hf (fun q_3 hq_3 hf => ?_)
        refine g_callViR cx lk_RX9_45 (c_X1_letter l D cB cI cJ cZ a1_forms s_a1_forms x3 v5 q_3 hq_3) rfl [10, 11, 12] rfl rfl (ci := 1) (q1 := 0) rfl rfl rfl (Nat.le_of_ble_eq_true rfl) ⟨rfl, rfl, Nat.le_of_ble_eq_true rfl, Nat.le_of_ble_eq_true rfl⟩ dX9_judge_40 ?_
        refine g_is cx (L2 := fun v6_4 => [(6, .int v6_4), (0, .ref (o 0)), (1, .ref (a1 0)), (2, .ref (a2 0)), (3, .int x3), (4, .int x4), (5, .int v5)]) hf dX9_judge_43 (Nat.le_of_ble_eq_true rfl) (fun _ => rfl) (fun v6_4 hf => ?_)
        refine g_aln cx 1 dX9_judge_45 rfl ?_
        refine fg_RX9_18 cx 6 rfl rfl dX9_judge_46 ?_
        refine g_il cx 0 dX9_judge_49 rfl ?_
        refine ob hf (fun q_5 hq_5 hf => ?_)
        refine g_callSiR cx lk_RX9_51 (c_X6_at l D cB cI cJ cZ (o 3) 8 (s9_latest zs_o) v6_4 q_5 hq_5) rfl [9] rfl rfl rfl (Nat.le_of_ble_eq_true rfl) ⟨rfl, rfl, Nat.le_of_ble_eq_true rfl, Nat.le_of_ble_eq_true rfl⟩ dX9_judge_51 ?_
        refine g_is cx (L2 := fun v7_6 => [(7, .int v7_6), (6, .int v6_4), (0, .ref (o 0)), (1, .ref (a1 0)), (2, .ref (a2 0)), (3, .int x3), (4, .int x4), (5, .int v5)]) hf dX9_judge_54 (Nat.le_of_ble_eq_true rfl) (fun _ => rfl) (fun v7_6 hf => ?_)
        refine g_ic cx dX9_judge_56 k_ic0 ?_
        refine g_is cx (L2 := fun v8_7 => [(8, .int v8_7), (7, .int v7_6), (6, .int v6_4), (0, .ref (o 0)), (1, .ref (a1 0)), (2, .ref (a2 0)), (3, .int x3), (4, .int x4), (5, .int v5)]) hf dX9_judge_57 (Nat.le_of_ble_eq_true rfl) (fun _ => rfl) (fun v8_7 hf => ?_)
        refine g_aln cx 4 dX9_judge_59 rfl ?_
        refine g_il cx 2 dX9_judge_60 rfl ?_
        refine g_aln cx 5 dX9_judge_62 rfl ?_
        refine g_il cx 8 dX9_judge_63 rfl ?_
        refine ob hf (fun q_8 hq_8 hf => ?_)
        refine g_callViR cx lk_RX9_57 (c_X4_wordAt l D cB cI cJ cZ a2 s_a2 v5 q_8 hq_8) rfl [2, 3, 4, 5] rfl rfl (ci := 4) (q1 := 0) rfl rfl rfl (Nat.le_of_ble_eq_true rfl) ⟨rfl, rfl, Nat.le_of_ble_eq_true rfl, Nat.le_of_ble_eq_true rfl⟩ dX9_judge_65 ?_
        refine g_aln cx 5 dX9_judge_68 rfl ?_
        refine g_il cx 8 dX9_judge_69 rfl ?_
        refine ob hf (fun q_9 hq_9 hf => ?_)
        refine g_callViR cx lk_RX9_61 (c_X4_beforeAt l D cB cI cJ cZ a2 s_a2 v5 q_9 hq_9) rfl [2, 3, 4, 5] rfl rfl (ci := 4) (q1 := 0) rfl rfl rfl (Nat.le_of_ble_eq_true rfl) ⟨rfl, rfl, Nat.le_of_ble_eq_true rfl, Nat.le_of_ble_eq_true rfl⟩ dX9_judge_71 ?_
        refine ob hf (fun q_10 hq_10 hf => ?_)
        refine g_callViR cx lk_RX9_64 (c_X7_fits l D cB cI cJ cZ a1 a1_words a1_forms a1_paper a1_stock s_a1 s_a1_words v6_4 q_8 q_9 q_10 hq_10) rfl [0, 1, 13, 14, 15, 16] rfl rfl (ci := 5) (q1 := 0) rfl rfl rfl (Nat.le_of_ble_eq_true rfl) ⟨rfl, rfl, Nat.le_of_ble_eq_true rfl, Nat.le_of_ble_eq_true rfl⟩ dX9_judge_74 ?_
        refine g_if_eq (tgt := 118) cx hf dX9_judge_77 rfl (fun hf => ?_) (fun hf => ?_)
        · refine g_sub [3, 4, 5, 6, 7, 8, 2, 1, 0] rfl ?_
          exact h118 _ ih _ _ _ _ _ hf
        · refine g_il cx 1 dX9_judge_80 rfl ?_
          refine g_if_ge (tgt := 91) cx hf dX9_judge_82 rfl (fun hf => ?_) (fun hf => ?_)
          · refine g_aln cx 4 dX9_judge_91 rfl ?_
            refine fg_RX9_68 cx 0 rfl rfl dX9_judge_92 ?_
            refine g_il cx 7 dX9_judge_95 rfl ?_
            refine g_aln cx 5 dX9_judge_97 rfl ?_
            refine g_il cx 1 dX9_judge_98 rfl ?_
            refine ob hf (fun q_11 hq_11 hf => ?_)
            refine g_callViR cx lk_RX9_57 (c_X4_wordAt l D cB cI cJ cZ a2 s_a2 v7_6 q_11 hq_11) rfl [2, 3, 4, 5] rfl rfl (ci := 4) (q1 := 0) rfl rfl rfl (Nat.le_of_ble_eq_true rfl) ⟨rfl, rfl, Nat.le_of_ble_eq_true rfl, Nat.le_of_ble_eq_true rfl⟩ dX9_judge_100 ?_
            refine g_aln cx 5 dX9_judge_103 rfl ?_
            refine g_il cx 8 dX9_judge_104 rfl ?_
            refine ob hf (fun q_12 hq_12 hf => ?_)
            refine g_callViR cx lk_RX9_57 (c_X4_wordAt l D cB cI cJ cZ a2 s_a2 v5 q_12 hq_12) rfl [2, 3, 4, 5] rfl rfl (ci := 4) (q1 := 0) rfl rfl rfl (Nat.le_of_ble_eq_true rfl) ⟨rfl, rfl, Nat.le_of_ble_eq_true rfl, Nat.le_of_ble_eq_true rfl⟩ dX9_judge_106 ?_
            refine ob hf (fun q_13 hq_13 hf => ?_)
            refine g_callViR cx lk_RX9_72 (c_X10_rhyme l D cB cI cJ cZ a1_words s_a1_words x4 q_11 q_12 q_13 hq_13) rfl [13, 14, 15, 16] rfl rfl (ci := 8) (q1 := 0) rfl rfl rfl (Nat.le_of_ble_eq_true rfl) ⟨rfl, rfl, Nat.le_of_ble_eq_true rfl, Nat.le_of_ble_eq_true rfl⟩ dX9_judge_109 ?_
            refine g_if_eq (tgt := 118) cx hf dX9_judge_112 rfl (fun hf => ?_) (fun hf => ?_)
            · refine g_sub [3, 4, 5, 6, 7, 8, 2, 1, 0] rfl ?_
              exact h118 _ ih _ _ _ _ _ hf
            · refine g_ic cx dX9_judge_115 k_ic2 ?_
              refine g_is cx (L2 := fun v8_14 => [(8, .int v8_14), (7, .int v7_6), (6, .int v6_4), (0, .ref (o 0)), (1, .ref (a1 0)), (2, .ref (a2 0)), (3, .int x3), (4, .int x4), (5, .int v5)]) hf dX9_judge_116 (Nat.le_of_ble_eq_true rfl) (fun _ => rfl) (fun v8_14 hf => ?_)
              refine g_sub [3, 4, 5, 6, 7, 8, 2, 1, 0] rfl ?_
              exact h118 _ ih _ _ _ _ _ hf
          · refine g_ic cx dX9_judge_85 k_ic1 ?_
            refine g_is cx (L2 := fun v8_15 => [(8, .int v8_15), (7, .int v7_6), (6, .int v6_4), (0, .ref (o 0)), (1, .ref (a1 0)), (2, .ref (a2 0)), (3, .int x3), (4, .int x4), (5, .int v5)]) hf dX9_judge_86 (Nat.le_of_ble_eq_true rfl) (fun _ => rfl) (fun v8_15 hf => ?_)
            refine g_goto (tgt := 118) cx dX9_judge_88 rfl ?_
            refine g_sub [3, 4, 5, 6, 7, 8, 2, 1, 0] rfl ?_
            exact h118 _ ih _ _ _ _ _ hf
  rw [F_X9_judge] at hf
  refine g_aln cx 0 dX9_judge_0 rfl ?_
  refine g_aln cx 2 dX9_judge_1 rfl ?_
  refine ob hf (fun q_16 hq_16 hf => ?_)
  refine g_callViR cx lk_RX9_21 (c_X4_size l D cB cI cJ cZ a2 s_a2 q_16 hq_16) rfl [2, 3, 4, 5] rfl rfl (ci := 4) (q1 := 0) rfl rfl rfl (Nat.le_of_ble_eq_true rfl) ⟨rfl, rfl, Nat.le_of_ble_eq_true rfl, Nat.le_of_ble_eq_true rfl⟩ dX9_judge_2 ?_
  refine fp_RX9_27 cx 6 rfl (Nat.le_of_ble_eq_true rfl) (ws' := (w_X9_judge a1 a2 o a1_forms a1_words a1_paper a1_stock cB cI cJ cZ s_a1 s_a2 (u9_size s_o q_16) s_a1_forms s_a1_words)) rfl dX9_judge_5 ?_
  refine g_nm (w := fun s_o_17 => (w_X9_judge a1 a2 o a1_forms a1_words a1_paper a1_stock cB cI cJ cZ s_a1 s_a2 s_o_17 s_a1_forms s_a1_words)) hf (fun s_o_17 hf => ?_)
  refine g_aln cx 0 dX9_judge_8 rfl ?_
  refine g_ic cx dX9_judge_9 k_ic0 ?_
  refine fp_RX9_30 cx 6 rfl (Nat.le_of_ble_eq_true rfl) (ws' := (w_X9_judge a1 a2 o a1_forms a1_words a1_paper a1_stock cB cI cJ cZ s_a1 s_a2 (u9_binding s_o_17 0) s_a1_forms s_a1_words)) rfl dX9_judge_10 ?_
  refine g_nm (w := fun s_o_18 => (w_X9_judge a1 a2 o a1_forms a1_words a1_paper a1_stock cB cI cJ cZ s_a1 s_a2 s_o_18 s_a1_forms s_a1_words)) hf (fun s_o_18 hf => ?_)
  refine g_aln cx 0 dX9_judge_13 rfl ?_
  refine fg_RX9_18 cx 6 rfl rfl dX9_judge_14 ?_
  refine g_ic cx dX9_judge_17 k_icm1 ?_
  refine ob hf (fun q_19 hq_19 hf => ?_)
  refine g_callSv cx lk_RX9_33 (c_J7_fill_53178 l D cB cI cJ cZ (o 3) 8 (s9_latest s_o_18) (-1) q_19 hq_19) rfl [9] rfl rfl (ws' := (w_X9_judge a1 a2 o a1_forms a1_words a1_paper a1_stock cB cI cJ cZ s_a1 s_a2 (u9_latest s_o_18 q_19) s_a1_forms s_a1_words)) rfl rfl rfl (Nat.le_of_ble_eq_true rfl) ⟨rfl, rfl, Nat.le_of_ble_eq_true rfl, Nat.le_of_ble_eq_true rfl⟩ dX9_judge_18 ?_
  refine g_ic cx dX9_judge_21 k_ic0 ?_
  refine g_is cx (L2 := fun v5_20 => [(5, .int v5_20), (0, .ref (o 0)), (1, .ref (a1 0)), (2, .ref (a2 0)), (3, .int x3), (4, .int x4)]) hf dX9_judge_22 (Nat.le_of_ble_eq_true rfl) (fun _ => rfl) (fun v5_20 hf => ?_)
  refine g_sub [1, 2, 3, 4, 5, 0] rfl ?_
  exact h24 fu _ _ hf
theorem dX9_stands_0 : decode cX9_stands 0 = .ok (.aload_n 0, 1) := by decide +kernel
theorem dX9_stands_1 : decode cX9_stands 1 = .ok (.getfield 9, 3) := by decide +kernel
theorem dX9_stands_4 : decode cX9_stands 4 = .ok (.iload_n 1, 1) := by decide +kernel
theorem dX9_stands_5 : decode cX9_stands 5 = .ok (.invokestatic 51, 3) := by decide +kernel
theorem dX9_stands_8 : decode cX9_stands 8 = .ok (.ifCond .eq 7, 3) := by decide +kernel
theorem dX9_stands_11 : decode cX9_stands 11 = .ok (.iconst 1, 1) := by decide +kernel
theorem dX9_stands_12 : decode cX9_stands 12 = .ok (.goto 4, 3) := by decide +kernel
theorem dX9_stands_15 : decode cX9_stands 15 = .ok (.iconst 0, 1) := by decide +kernel
theorem dX9_stands_16 : decode cX9_stands 16 = .ok (.ireturn, 1) := by decide +kernel


def F_X9_stands (s_o : S9) (x1 : Int32) : Option (Int32) := (F_X6_at 8 (s9_states s_o) x1).bind fun q_1 => (if q_1 = 0 then some (0) else some (1))
def w_X9_stands (o : Nat → Nat) (cB cI cJ cZ : ClassId) (s_o : S9) : va_W := [(o 0, .inr (7, [.ref (o 1), .ref (o 2), .ref (o 3), .int (s9_size s_o), .int (s9_binding s_o)])), (o 1, .inl (cI, 8, .inl (s9_states s_o))), (o 2, .inl (cI, 8, .inl (s9_anchors s_o))), (o 3, .inl (cI, 8, .inl (s9_latest s_o)))]
abbrev rm_X9_stands : Room := { frames := 1, cells := 0, slots := 0, locals := 21 }
set_option maxHeartbeats 4000000 in
set_option maxRecDepth 100000 in
theorem c_X9_stands (l : Launch) (D : va_G) (cB cI cJ cZ : ClassId) (o : Nat → Nat) (s_o : S9) (x1 : Int32) (r : Int32) (hf : F_X9_stands s_o x1 = some r) : gM l D (tyL cB cI cJ cZ) yX9_stands cX9_stands 2 (some .boolean) rm_X9_stands [.ref (o 0), .int x1] (w_X9_stands o cB cI cJ cZ s_o) (some (.int r)) (w_X9_stands o cB cI cJ cZ s_o) := by
  refine met_of (by decide) (Nat.le_of_ble_eq_true rfl) ?_
  intro p e s m args below meth c A cx hr hA
  show gW p l e rm_X9_stands s m args below meth c D A 2 _ _ [(0, .ref (o 0)), (1, .int x1)] 0 []
  rw [F_X9_stands] at hf
  refine g_aln cx 0 dX9_stands_0 rfl ?_
  refine fg_RX9_9 cx 0 rfl rfl dX9_stands_1 ?_
  refine g_iln cx 1 dX9_stands_4 rfl ?_
  refine ob hf (fun q_1 hq_1 hf => ?_)
  refine g_callSiR cx lk_RX9_51 (c_X6_at l D cB cI cJ cZ (o 1) 8 (s9_states s_o) x1 q_1 hq_1) rfl [1] rfl rfl rfl (Nat.le_of_ble_eq_true rfl) ⟨rfl, rfl, Nat.le_of_ble_eq_true rfl, Nat.le_of_ble_eq_true rfl⟩ dX9_stands_5 ?_
  refine g_if_eq (tgt := 15) cx hf dX9_stands_8 rfl (fun hf => ?_) (fun hf => ?_)
  · refine g_ic cx dX9_stands_15 k_ic0 ?_
    exact g_zret (ovf := fun (r : Int32) => (some (.int r))) (wf := fun (r : Int32) => (w_X9_stands o cB cI cJ cZ s_o)) cx hA hr rfl hf rfl rfl dX9_stands_16
  · refine g_ic cx dX9_stands_11 k_ic1 ?_
    refine g_goto (tgt := 16) cx dX9_stands_12 rfl ?_
    exact g_zret (ovf := fun (r : Int32) => (some (.int r))) (wf := fun (r : Int32) => (w_X9_stands o cB cI cJ cZ s_o)) cx hA hr rfl hf rfl rfl dX9_stands_16
theorem dX9_opens_0 : decode cX9_opens 0 = .ok (.aload_n 0, 1) := by decide +kernel
theorem dX9_opens_1 : decode cX9_opens 1 = .ok (.getfield 9, 3) := by decide +kernel
theorem dX9_opens_4 : decode cX9_opens 4 = .ok (.iload_n 1, 1) := by decide +kernel
theorem dX9_opens_5 : decode cX9_opens 5 = .ok (.invokestatic 51, 3) := by decide +kernel
theorem dX9_opens_8 : decode cX9_opens 8 = .ok (.iconst 1, 1) := by decide +kernel
theorem dX9_opens_9 : decode cX9_opens 9 = .ok (.if_icmp .ne 7, 3) := by decide +kernel
theorem dX9_opens_12 : decode cX9_opens 12 = .ok (.iconst 1, 1) := by decide +kernel
theorem dX9_opens_13 : decode cX9_opens 13 = .ok (.goto 4, 3) := by decide +kernel
theorem dX9_opens_16 : decode cX9_opens 16 = .ok (.iconst 0, 1) := by decide +kernel
theorem dX9_opens_17 : decode cX9_opens 17 = .ok (.ireturn, 1) := by decide +kernel


def F_X9_opens (s_o : S9) (x1 : Int32) : Option (Int32) := (F_X6_at 8 (s9_states s_o) x1).bind fun q_1 => (if q_1 = 1 then some (1) else some (0))
def w_X9_opens (o : Nat → Nat) (cB cI cJ cZ : ClassId) (s_o : S9) : va_W := [(o 0, .inr (7, [.ref (o 1), .ref (o 2), .ref (o 3), .int (s9_size s_o), .int (s9_binding s_o)])), (o 1, .inl (cI, 8, .inl (s9_states s_o))), (o 2, .inl (cI, 8, .inl (s9_anchors s_o))), (o 3, .inl (cI, 8, .inl (s9_latest s_o)))]
abbrev rm_X9_opens : Room := { frames := 1, cells := 0, slots := 0, locals := 21 }
set_option maxHeartbeats 4000000 in
set_option maxRecDepth 100000 in
theorem c_X9_opens (l : Launch) (D : va_G) (cB cI cJ cZ : ClassId) (o : Nat → Nat) (s_o : S9) (x1 : Int32) (r : Int32) (hf : F_X9_opens s_o x1 = some r) : gM l D (tyL cB cI cJ cZ) yX9_opens cX9_opens 2 (some .boolean) rm_X9_opens [.ref (o 0), .int x1] (w_X9_opens o cB cI cJ cZ s_o) (some (.int r)) (w_X9_opens o cB cI cJ cZ s_o) := by
  refine met_of (by decide) (Nat.le_of_ble_eq_true rfl) ?_
  intro p e s m args below meth c A cx hr hA
  show gW p l e rm_X9_opens s m args below meth c D A 2 _ _ [(0, .ref (o 0)), (1, .int x1)] 0 []
  rw [F_X9_opens] at hf
  refine g_aln cx 0 dX9_opens_0 rfl ?_
  refine fg_RX9_9 cx 0 rfl rfl dX9_opens_1 ?_
  refine g_iln cx 1 dX9_opens_4 rfl ?_
  refine ob hf (fun q_1 hq_1 hf => ?_)
  refine g_callSiR cx lk_RX9_51 (c_X6_at l D cB cI cJ cZ (o 1) 8 (s9_states s_o) x1 q_1 hq_1) rfl [1] rfl rfl rfl (Nat.le_of_ble_eq_true rfl) ⟨rfl, rfl, Nat.le_of_ble_eq_true rfl, Nat.le_of_ble_eq_true rfl⟩ dX9_opens_5 ?_
  refine g_ic cx dX9_opens_8 k_ic1 ?_
  refine g_ic_ne (tgt := 16) cx hf dX9_opens_9 rfl (fun hf => ?_) (fun hf => ?_)
  · refine g_ic cx dX9_opens_16 k_ic0 ?_
    exact g_zret (ovf := fun (r : Int32) => (some (.int r))) (wf := fun (r : Int32) => (w_X9_opens o cB cI cJ cZ s_o)) cx hA hr rfl hf rfl rfl dX9_opens_17
  · refine g_ic cx dX9_opens_12 k_ic1 ?_
    refine g_goto (tgt := 17) cx dX9_opens_13 rfl ?_
    exact g_zret (ovf := fun (r : Int32) => (some (.int r))) (wf := fun (r : Int32) => (w_X9_opens o cB cI cJ cZ s_o)) cx hA hr rfl hf rfl rfl dX9_opens_17
theorem dX9_rhymed_0 : decode cX9_rhymed 0 = .ok (.aload_n 0, 1) := by decide +kernel
theorem dX9_rhymed_1 : decode cX9_rhymed 1 = .ok (.getfield 9, 3) := by decide +kernel
theorem dX9_rhymed_4 : decode cX9_rhymed 4 = .ok (.iload_n 1, 1) := by decide +kernel
theorem dX9_rhymed_5 : decode cX9_rhymed 5 = .ok (.invokestatic 51, 3) := by decide +kernel
theorem dX9_rhymed_8 : decode cX9_rhymed 8 = .ok (.iconst 2, 1) := by decide +kernel
theorem dX9_rhymed_9 : decode cX9_rhymed 9 = .ok (.if_icmp .ne 7, 3) := by decide +kernel
theorem dX9_rhymed_12 : decode cX9_rhymed 12 = .ok (.iconst 1, 1) := by decide +kernel
theorem dX9_rhymed_13 : decode cX9_rhymed 13 = .ok (.goto 4, 3) := by decide +kernel
theorem dX9_rhymed_16 : decode cX9_rhymed 16 = .ok (.iconst 0, 1) := by decide +kernel
theorem dX9_rhymed_17 : decode cX9_rhymed 17 = .ok (.ireturn, 1) := by decide +kernel


def F_X9_rhymed (s_o : S9) (x1 : Int32) : Option (Int32) := (F_X6_at 8 (s9_states s_o) x1).bind fun q_1 => (if q_1 = 2 then some (1) else some (0))
def w_X9_rhymed (o : Nat → Nat) (cB cI cJ cZ : ClassId) (s_o : S9) : va_W := [(o 0, .inr (7, [.ref (o 1), .ref (o 2), .ref (o 3), .int (s9_size s_o), .int (s9_binding s_o)])), (o 1, .inl (cI, 8, .inl (s9_states s_o))), (o 2, .inl (cI, 8, .inl (s9_anchors s_o))), (o 3, .inl (cI, 8, .inl (s9_latest s_o)))]
abbrev rm_X9_rhymed : Room := { frames := 1, cells := 0, slots := 0, locals := 21 }
set_option maxHeartbeats 4000000 in
set_option maxRecDepth 100000 in
theorem c_X9_rhymed (l : Launch) (D : va_G) (cB cI cJ cZ : ClassId) (o : Nat → Nat) (s_o : S9) (x1 : Int32) (r : Int32) (hf : F_X9_rhymed s_o x1 = some r) : gM l D (tyL cB cI cJ cZ) yX9_rhymed cX9_rhymed 2 (some .boolean) rm_X9_rhymed [.ref (o 0), .int x1] (w_X9_rhymed o cB cI cJ cZ s_o) (some (.int r)) (w_X9_rhymed o cB cI cJ cZ s_o) := by
  refine met_of (by decide) (Nat.le_of_ble_eq_true rfl) ?_
  intro p e s m args below meth c A cx hr hA
  show gW p l e rm_X9_rhymed s m args below meth c D A 2 _ _ [(0, .ref (o 0)), (1, .int x1)] 0 []
  rw [F_X9_rhymed] at hf
  refine g_aln cx 0 dX9_rhymed_0 rfl ?_
  refine fg_RX9_9 cx 0 rfl rfl dX9_rhymed_1 ?_
  refine g_iln cx 1 dX9_rhymed_4 rfl ?_
  refine ob hf (fun q_1 hq_1 hf => ?_)
  refine g_callSiR cx lk_RX9_51 (c_X6_at l D cB cI cJ cZ (o 1) 8 (s9_states s_o) x1 q_1 hq_1) rfl [1] rfl rfl rfl (Nat.le_of_ble_eq_true rfl) ⟨rfl, rfl, Nat.le_of_ble_eq_true rfl, Nat.le_of_ble_eq_true rfl⟩ dX9_rhymed_5 ?_
  refine g_ic cx dX9_rhymed_8 k_ic2 ?_
  refine g_ic_ne (tgt := 16) cx hf dX9_rhymed_9 rfl (fun hf => ?_) (fun hf => ?_)
  · refine g_ic cx dX9_rhymed_16 k_ic0 ?_
    exact g_zret (ovf := fun (r : Int32) => (some (.int r))) (wf := fun (r : Int32) => (w_X9_rhymed o cB cI cJ cZ s_o)) cx hA hr rfl hf rfl rfl dX9_rhymed_17
  · refine g_ic cx dX9_rhymed_12 k_ic1 ?_
    refine g_goto (tgt := 17) cx dX9_rhymed_13 rfl ?_
    exact g_zret (ovf := fun (r : Int32) => (some (.int r))) (wf := fun (r : Int32) => (w_X9_rhymed o cB cI cJ cZ s_o)) cx hA hr rfl hf rfl rfl dX9_rhymed_17
theorem dX9_binds_0 : decode cX9_binds 0 = .ok (.aload_n 0, 1) := by decide +kernel
theorem dX9_binds_1 : decode cX9_binds 1 = .ok (.getfield 30, 3) := by decide +kernel
theorem dX9_binds_4 : decode cX9_binds 4 = .ok (.iload_n 1, 1) := by decide +kernel
theorem dX9_binds_5 : decode cX9_binds 5 = .ok (.ishr, 1) := by decide +kernel
theorem dX9_binds_6 : decode cX9_binds 6 = .ok (.iconst 1, 1) := by decide +kernel
theorem dX9_binds_7 : decode cX9_binds 7 = .ok (.iand, 1) := by decide +kernel
theorem dX9_binds_8 : decode cX9_binds 8 = .ok (.ifCond .eq 7, 3) := by decide +kernel
theorem dX9_binds_11 : decode cX9_binds 11 = .ok (.iconst 1, 1) := by decide +kernel
theorem dX9_binds_12 : decode cX9_binds 12 = .ok (.goto 4, 3) := by decide +kernel
theorem dX9_binds_15 : decode cX9_binds 15 = .ok (.iconst 0, 1) := by decide +kernel
theorem dX9_binds_16 : decode cX9_binds 16 = .ok (.ireturn, 1) := by decide +kernel


def F_X9_binds (s_o : S9) (x1 : Int32) : Option (Int32) := (if (((s9_binding s_o) >>> (x1 &&& 31)) &&& 1) = 0 then some (0) else some (1))
def w_X9_binds (o : Nat → Nat) (cB cI cJ cZ : ClassId) (s_o : S9) : va_W := [(o 0, .inr (7, [.ref (o 1), .ref (o 2), .ref (o 3), .int (s9_size s_o), .int (s9_binding s_o)])), (o 1, .inl (cI, 8, .inl (s9_states s_o))), (o 2, .inl (cI, 8, .inl (s9_anchors s_o))), (o 3, .inl (cI, 8, .inl (s9_latest s_o)))]
abbrev rm_X9_binds : Room := { frames := 0, cells := 0, slots := 0, locals := 0 }
set_option maxHeartbeats 4000000 in
set_option maxRecDepth 100000 in
theorem c_X9_binds (l : Launch) (D : va_G) (cB cI cJ cZ : ClassId) (o : Nat → Nat) (s_o : S9) (x1 : Int32) (r : Int32) (hf : F_X9_binds s_o x1 = some r) : gM l D (tyL cB cI cJ cZ) yX9_binds cX9_binds 2 (some .boolean) rm_X9_binds [.ref (o 0), .int x1] (w_X9_binds o cB cI cJ cZ s_o) (some (.int r)) (w_X9_binds o cB cI cJ cZ s_o) := by
  refine met_of (by decide) (Nat.le_of_ble_eq_true rfl) ?_
  intro p e s m args below meth c A cx hr hA
  show gW p l e rm_X9_binds s m args below meth c D A 2 _ _ [(0, .ref (o 0)), (1, .int x1)] 0 []
  rw [F_X9_binds] at hf
  refine g_aln cx 0 dX9_binds_0 rfl ?_
  refine fg_RX9_30 cx 0 rfl rfl dX9_binds_1 ?_
  refine g_iln cx 1 dX9_binds_4 rfl ?_
  refine g_ishr cx dX9_binds_5 ?_
  refine g_ic cx dX9_binds_6 k_ic1 ?_
  refine g_iand cx dX9_binds_7 ?_
  refine g_if_eq (tgt := 15) cx hf dX9_binds_8 rfl (fun hf => ?_) (fun hf => ?_)
  · refine g_ic cx dX9_binds_15 k_ic0 ?_
    exact g_zret (ovf := fun (r : Int32) => (some (.int r))) (wf := fun (r : Int32) => (w_X9_binds o cB cI cJ cZ s_o)) cx hA hr rfl hf rfl rfl dX9_binds_16
  · refine g_ic cx dX9_binds_11 k_ic1 ?_
    refine g_goto (tgt := 16) cx dX9_binds_12 rfl ?_
    exact g_zret (ovf := fun (r : Int32) => (some (.int r))) (wf := fun (r : Int32) => (w_X9_binds o cB cI cJ cZ s_o)) cx hA hr rfl hf rfl rfl dX9_binds_16
theorem dX9_anchor_0 : decode cX9_anchor 0 = .ok (.aload_n 0, 1) := by decide +kernel
theorem dX9_anchor_1 : decode cX9_anchor 1 = .ok (.getfield 15, 3) := by decide +kernel
theorem dX9_anchor_4 : decode cX9_anchor 4 = .ok (.iload_n 1, 1) := by decide +kernel
theorem dX9_anchor_5 : decode cX9_anchor 5 = .ok (.invokestatic 51, 3) := by decide +kernel
theorem dX9_anchor_8 : decode cX9_anchor 8 = .ok (.ireturn, 1) := by decide +kernel


def F_X9_anchor (s_o : S9) (x1 : Int32) : Option (Int32) := (F_X6_at 8 (s9_anchors s_o) x1).bind fun q_1 => some (q_1)
def w_X9_anchor (o : Nat → Nat) (cB cI cJ cZ : ClassId) (s_o : S9) : va_W := [(o 0, .inr (7, [.ref (o 1), .ref (o 2), .ref (o 3), .int (s9_size s_o), .int (s9_binding s_o)])), (o 1, .inl (cI, 8, .inl (s9_states s_o))), (o 2, .inl (cI, 8, .inl (s9_anchors s_o))), (o 3, .inl (cI, 8, .inl (s9_latest s_o)))]
abbrev rm_X9_anchor : Room := { frames := 1, cells := 0, slots := 0, locals := 21 }
set_option maxHeartbeats 4000000 in
set_option maxRecDepth 100000 in
theorem c_X9_anchor (l : Launch) (D : va_G) (cB cI cJ cZ : ClassId) (o : Nat → Nat) (s_o : S9) (x1 : Int32) (r : Int32) (hf : F_X9_anchor s_o x1 = some r) : gM l D (tyL cB cI cJ cZ) yX9_anchor cX9_anchor 2 (some .int) rm_X9_anchor [.ref (o 0), .int x1] (w_X9_anchor o cB cI cJ cZ s_o) (some (.int r)) (w_X9_anchor o cB cI cJ cZ s_o) := by
  refine met_of (by decide) (Nat.le_of_ble_eq_true rfl) ?_
  intro p e s m args below meth c A cx hr hA
  show gW p l e rm_X9_anchor s m args below meth c D A 2 _ _ [(0, .ref (o 0)), (1, .int x1)] 0 []
  rw [F_X9_anchor] at hf
  refine g_aln cx 0 dX9_anchor_0 rfl ?_
  refine fg_RX9_15 cx 0 rfl rfl dX9_anchor_1 ?_
  refine g_iln cx 1 dX9_anchor_4 rfl ?_
  refine ob hf (fun q_1 hq_1 hf => ?_)
  refine g_callSiR cx lk_RX9_51 (c_X6_at l D cB cI cJ cZ (o 2) 8 (s9_anchors s_o) x1 q_1 hq_1) rfl [2] rfl rfl rfl (Nat.le_of_ble_eq_true rfl) ⟨rfl, rfl, Nat.le_of_ble_eq_true rfl, Nat.le_of_ble_eq_true rfl⟩ dX9_anchor_5 ?_
  exact g_iret (ovf := fun (r : Int32) => (some (.int r))) (wf := fun (r : Int32) => (w_X9_anchor o cB cI cJ cZ s_o)) cx hA hr hf rfl rfl dX9_anchor_8
theorem dX9_isLaw_0 : decode cX9_isLaw 0 = .ok (.aload_n 0, 1) := by decide +kernel
theorem dX9_isLaw_1 : decode cX9_isLaw 1 = .ok (.getfield 27, 3) := by decide +kernel
theorem dX9_isLaw_4 : decode cX9_isLaw 4 = .ok (.ifCond .le 22, 3) := by decide +kernel
theorem dX9_isLaw_7 : decode cX9_isLaw 7 = .ok (.aload_n 0, 1) := by decide +kernel
theorem dX9_isLaw_8 : decode cX9_isLaw 8 = .ok (.getfield 30, 3) := by decide +kernel
theorem dX9_isLaw_11 : decode cX9_isLaw 11 = .ok (.iconst 1, 1) := by decide +kernel
theorem dX9_isLaw_12 : decode cX9_isLaw 12 = .ok (.aload_n 0, 1) := by decide +kernel
theorem dX9_isLaw_13 : decode cX9_isLaw 13 = .ok (.getfield 27, 3) := by decide +kernel
theorem dX9_isLaw_16 : decode cX9_isLaw 16 = .ok (.ishl, 1) := by decide +kernel
theorem dX9_isLaw_17 : decode cX9_isLaw 17 = .ok (.iconst 1, 1) := by decide +kernel
theorem dX9_isLaw_18 : decode cX9_isLaw 18 = .ok (.isub, 1) := by decide +kernel
theorem dX9_isLaw_19 : decode cX9_isLaw 19 = .ok (.if_icmp .ne 7, 3) := by decide +kernel
theorem dX9_isLaw_22 : decode cX9_isLaw 22 = .ok (.iconst 1, 1) := by decide +kernel
theorem dX9_isLaw_23 : decode cX9_isLaw 23 = .ok (.goto 4, 3) := by decide +kernel
theorem dX9_isLaw_26 : decode cX9_isLaw 26 = .ok (.iconst 0, 1) := by decide +kernel
theorem dX9_isLaw_27 : decode cX9_isLaw 27 = .ok (.ireturn, 1) := by decide +kernel


def F_X9_isLaw (s_o : S9) : Option (Int32) := (if (s9_size s_o) ≤ 0 then some (0) else (if (s9_binding s_o) = ((1 <<< ((s9_size s_o) &&& 31)) - 1) then some (1) else some (0)))
def w_X9_isLaw (o : Nat → Nat) (cB cI cJ cZ : ClassId) (s_o : S9) : va_W := [(o 0, .inr (7, [.ref (o 1), .ref (o 2), .ref (o 3), .int (s9_size s_o), .int (s9_binding s_o)])), (o 1, .inl (cI, 8, .inl (s9_states s_o))), (o 2, .inl (cI, 8, .inl (s9_anchors s_o))), (o 3, .inl (cI, 8, .inl (s9_latest s_o)))]
abbrev rm_X9_isLaw : Room := { frames := 0, cells := 0, slots := 0, locals := 0 }
set_option maxHeartbeats 4000000 in
set_option maxRecDepth 100000 in
theorem c_X9_isLaw (l : Launch) (D : va_G) (cB cI cJ cZ : ClassId) (o : Nat → Nat) (s_o : S9) (r : Int32) (hf : F_X9_isLaw s_o = some r) : gM l D (tyL cB cI cJ cZ) yX9_isLaw cX9_isLaw 1 (some .boolean) rm_X9_isLaw [.ref (o 0)] (w_X9_isLaw o cB cI cJ cZ s_o) (some (.int r)) (w_X9_isLaw o cB cI cJ cZ s_o) := by
  refine met_of (by decide) (Nat.le_of_ble_eq_true rfl) ?_
  intro p e s m args below meth c A cx hr hA
  show gW p l e rm_X9_isLaw s m args below meth c D A 1 _ _ [(0, .ref (o 0))] 0 []
  rw [F_X9_isLaw] at hf
  refine g_aln cx 0 dX9_isLaw_0 rfl ?_
  refine fg_RX9_27 cx 0 rfl rfl dX9_isLaw_1 ?_
  refine g_if_le (tgt := 26) cx hf dX9_isLaw_4 rfl (fun hf => ?_) (fun hf => ?_)
  · refine g_ic cx dX9_isLaw_26 k_ic0 ?_
    exact g_zret (ovf := fun (r : Int32) => (some (.int r))) (wf := fun (r : Int32) => (w_X9_isLaw o cB cI cJ cZ s_o)) cx hA hr rfl hf rfl rfl dX9_isLaw_27
  · refine g_aln cx 0 dX9_isLaw_7 rfl ?_
    refine fg_RX9_30 cx 0 rfl rfl dX9_isLaw_8 ?_
    refine g_ic cx dX9_isLaw_11 k_ic1 ?_
    refine g_aln cx 0 dX9_isLaw_12 rfl ?_
    refine fg_RX9_27 cx 0 rfl rfl dX9_isLaw_13 ?_
    refine g_ishl cx dX9_isLaw_16 ?_
    refine g_ic cx dX9_isLaw_17 k_ic1 ?_
    refine g_isub cx dX9_isLaw_18 ?_
    refine g_ic_ne (tgt := 26) cx hf dX9_isLaw_19 rfl (fun hf => ?_) (fun hf => ?_)
    · refine g_ic cx dX9_isLaw_26 k_ic0 ?_
      exact g_zret (ovf := fun (r : Int32) => (some (.int r))) (wf := fun (r : Int32) => (w_X9_isLaw o cB cI cJ cZ s_o)) cx hA hr rfl hf rfl rfl dX9_isLaw_27
    · refine g_ic cx dX9_isLaw_22 k_ic1 ?_
      refine g_goto (tgt := 27) cx dX9_isLaw_23 rfl ?_
      exact g_zret (ovf := fun (r : Int32) => (some (.int r))) (wf := fun (r : Int32) => (w_X9_isLaw o cB cI cJ cZ s_o)) cx hA hr rfl hf rfl rfl dX9_isLaw_27
theorem dX9_firstLoose_0 : decode cX9_firstLoose 0 = .ok (.iconst 0, 1) := by decide +kernel
theorem dX9_firstLoose_1 : decode cX9_firstLoose 1 = .ok (.istore_n 1, 1) := by decide +kernel
theorem dX9_firstLoose_2 : decode cX9_firstLoose 2 = .ok (.iload_n 1, 1) := by decide +kernel
theorem dX9_firstLoose_3 : decode cX9_firstLoose 3 = .ok (.aload_n 0, 1) := by decide +kernel
theorem dX9_firstLoose_4 : decode cX9_firstLoose 4 = .ok (.getfield 27, 3) := by decide +kernel
theorem dX9_firstLoose_7 : decode cX9_firstLoose 7 = .ok (.if_icmp .ge 19, 3) := by decide +kernel
theorem dX9_firstLoose_10 : decode cX9_firstLoose 10 = .ok (.aload_n 0, 1) := by decide +kernel
theorem dX9_firstLoose_11 : decode cX9_firstLoose 11 = .ok (.iload_n 1, 1) := by decide +kernel
theorem dX9_firstLoose_12 : decode cX9_firstLoose 12 = .ok (.invokevirtual 85, 3) := by decide +kernel
theorem dX9_firstLoose_15 : decode cX9_firstLoose 15 = .ok (.ifCond .ne 5, 3) := by decide +kernel
theorem dX9_firstLoose_18 : decode cX9_firstLoose 18 = .ok (.iload_n 1, 1) := by decide +kernel
theorem dX9_firstLoose_19 : decode cX9_firstLoose 19 = .ok (.ireturn, 1) := by decide +kernel
theorem dX9_firstLoose_20 : decode cX9_firstLoose 20 = .ok (.iinc 1 1, 3) := by decide +kernel
theorem dX9_firstLoose_23 : decode cX9_firstLoose 23 = .ok (.goto (-21), 3) := by decide +kernel
theorem dX9_firstLoose_26 : decode cX9_firstLoose 26 = .ok (.bipush (-9), 2) := by decide +kernel
theorem dX9_firstLoose_28 : decode cX9_firstLoose 28 = .ok (.ireturn, 1) := by decide +kernel
theorem k_bpm9 : (Int8.ofInt (-9)).toInt32 = (-9) := by decide
theorem q3_154 : Cond.instanceMethod yX9_binds ∈ TT := tq3 154 rfl rfl
theorem q3_155 : Cond.selects RX9 yX9_binds yX9_binds ∈ TT := tq3 155 rfl rfl
theorem q3_156 : Cond.code yX9_binds cX9_binds 2 (some .boolean) ∈ TT := tq3 156 rfl rfl
theorem q3_181 : Cond.methodLink RX9 85 yX9_binds ∈ TT := tq3 181 rfl rfl
theorem lk_RX9_85 : vlk RX9 85 yX9_binds cX9_binds 2 (some .boolean) 1 := ⟨List.forall_mem_cons.mpr ⟨q3_181, List.forall_mem_cons.mpr ⟨q3_154, List.forall_mem_cons.mpr ⟨q3_155, List.forall_mem_cons.mpr ⟨q1_3, fun _ h => absurd h List.not_mem_nil⟩⟩⟩⟩, q3_156, by decide, by decide, by decide +kernel⟩
def F_X9_firstLoose_b2 (s_o : S9) : Nat → Int32 → Option (Int32)
  | 0, _ => none
  | n + 1, v1 => (if (s9_size s_o) ≤ v1 then some ((-9)) else (F_X9_binds s_o v1).bind fun q_1 => (if q_1 = 0 then some (v1) else nm (v1 + 1) fun v1_2 => (F_X9_firstLoose_b2 s_o n) v1_2))
def F_X9_firstLoose (s_o : S9) : Option (Int32) := nm 0 fun v1_3 => F_X9_firstLoose_b2 s_o fu v1_3
def w_X9_firstLoose (o : Nat → Nat) (cB cI cJ cZ : ClassId) (s_o : S9) : va_W := [(o 0, .inr (7, [.ref (o 1), .ref (o 2), .ref (o 3), .int (s9_size s_o), .int (s9_binding s_o)])), (o 1, .inl (cI, 8, .inl (s9_states s_o))), (o 2, .inl (cI, 8, .inl (s9_anchors s_o))), (o 3, .inl (cI, 8, .inl (s9_latest s_o)))]
abbrev rm_X9_firstLoose : Room := { frames := 1, cells := 0, slots := 0, locals := 21 }
set_option maxHeartbeats 4000000 in
set_option maxRecDepth 100000 in
theorem c_X9_firstLoose (l : Launch) (D : va_G) (cB cI cJ cZ : ClassId) (o : Nat → Nat) (s_o : S9) (r : Int32) (hf : F_X9_firstLoose s_o = some r) : gM l D (tyL cB cI cJ cZ) yX9_firstLoose cX9_firstLoose 2 (some .int) rm_X9_firstLoose [.ref (o 0)] (w_X9_firstLoose o cB cI cJ cZ s_o) (some (.int r)) (w_X9_firstLoose o cB cI cJ cZ s_o) := by
  refine met_of (by decide) (Nat.le_of_ble_eq_true rfl) ?_
  intro p e s m args below meth c A cx hr hA
  show gW p l e rm_X9_firstLoose s m args below meth c D A 2 _ _ [(0, .ref (o 0))] 0 []
  have h2 : ∀ (n : Nat) (v1 : Int32), F_X9_firstLoose_b2 s_o n v1 = some r → gW p l e rm_X9_firstLoose s m args below meth c D A 2 (MQ below (QM D (tyL cB cI cJ cZ) (some (.int r)) (w_X9_firstLoose o cB cI cJ cZ s_o) (w_X9_firstLoose o cB cI cJ cZ s_o) s.heap.size) args s 0 0 A) (w_X9_firstLoose o cB cI cJ cZ s_o) [(0, .ref (o 0)), (1, .int v1)] 2 [] := by
    intro n
    induction n with
    | zero => intro v1 hf; rw [F_X9_firstLoose_b2] at hf; cases hf
    | succ n ih =>
      intro v1 hf
      rw [F_X9_firstLoose_b2] at hf
      refine g_iln cx 1 dX9_firstLoose_2 rfl ?_
      refine g_aln cx 0 dX9_firstLoose_3 rfl ?_
      refine fg_RX9_27 cx 0 rfl rfl dX9_firstLoose_4 ?_
      refine g_ic_ge (tgt := 26) cx hf dX9_firstLoose_7 rfl (fun hf => ?_) (fun hf => ?_)
      · refine g_bp cx dX9_firstLoose_26 k_bpm9 ?_
        exact g_iret (ovf := fun (r : Int32) => (some (.int r))) (wf := fun (r : Int32) => (w_X9_firstLoose o cB cI cJ cZ s_o)) cx hA hr hf rfl rfl dX9_firstLoose_28
      · refine g_aln cx 0 dX9_firstLoose_10 rfl ?_
        refine g_iln cx 1 dX9_firstLoose_11 rfl ?_
        refine ob hf (fun q_1 hq_1 hf => ?_)
        refine g_callViR cx lk_RX9_85 (c_X9_binds l D cB cI cJ cZ o s_o v1 q_1 hq_1) rfl [0, 1, 2, 3] rfl rfl (ci := 7) (q1 := 0) rfl rfl rfl (Nat.le_of_ble_eq_true rfl) ⟨rfl, rfl, Nat.le_of_ble_eq_true rfl, Nat.le_of_ble_eq_true rfl⟩ dX9_firstLoose_12 ?_
        refine g_if_ne (tgt := 20) cx hf dX9_firstLoose_15 rfl (fun hf => ?_) (fun hf => ?_)
        · refine g_inc cx (L2 := fun v1_2 => [(1, .int v1_2), (0, .ref (o 0))]) 1 hf dX9_firstLoose_20 rfl (k_inc1 _) (Nat.le_of_ble_eq_true rfl) (fun _ => rfl) (fun v1_2 hf => ?_)
          refine g_goto (tgt := 2) cx dX9_firstLoose_23 rfl ?_
          refine g_sub [1, 0] rfl ?_
          exact ih _ hf
        · refine g_iln cx 1 dX9_firstLoose_18 rfl ?_
          exact g_iret (ovf := fun (r : Int32) => (some (.int r))) (wf := fun (r : Int32) => (w_X9_firstLoose o cB cI cJ cZ s_o)) cx hA hr hf rfl rfl dX9_firstLoose_19
  rw [F_X9_firstLoose] at hf
  refine g_ic cx dX9_firstLoose_0 k_ic0 ?_
  refine g_isn cx (L2 := fun v1_3 => [(1, .int v1_3), (0, .ref (o 0))]) hf dX9_firstLoose_1 (Nat.le_of_ble_eq_true rfl) (fun _ => rfl) (fun v1_3 hf => ?_)
  refine g_sub [1, 0] rfl ?_
  exact h2 fu _ hf
theorem dX9_thingsOf_0 : decode cX9_thingsOf 0 = .ok (.iconst 0, 1) := by decide +kernel
theorem dX9_thingsOf_1 : decode cX9_thingsOf 1 = .ok (.istore_n 2, 1) := by decide +kernel
theorem dX9_thingsOf_2 : decode cX9_thingsOf 2 = .ok (.iconst 0, 1) := by decide +kernel
theorem dX9_thingsOf_3 : decode cX9_thingsOf 3 = .ok (.istore_n 3, 1) := by decide +kernel
theorem dX9_thingsOf_4 : decode cX9_thingsOf 4 = .ok (.iload_n 3, 1) := by decide +kernel
theorem dX9_thingsOf_5 : decode cX9_thingsOf 5 = .ok (.aload_n 0, 1) := by decide +kernel
theorem dX9_thingsOf_6 : decode cX9_thingsOf 6 = .ok (.getfield 27, 3) := by decide +kernel
theorem dX9_thingsOf_9 : decode cX9_thingsOf 9 = .ok (.if_icmp .ge 27, 3) := by decide +kernel
theorem dX9_thingsOf_12 : decode cX9_thingsOf 12 = .ok (.aload_n 0, 1) := by decide +kernel
theorem dX9_thingsOf_13 : decode cX9_thingsOf 13 = .ok (.iload_n 3, 1) := by decide +kernel
theorem dX9_thingsOf_14 : decode cX9_thingsOf 14 = .ok (.invokevirtual 85, 3) := by decide +kernel
theorem dX9_thingsOf_17 : decode cX9_thingsOf 17 = .ok (.ifCond .eq 13, 3) := by decide +kernel
theorem dX9_thingsOf_20 : decode cX9_thingsOf 20 = .ok (.iload_n 2, 1) := by decide +kernel
theorem dX9_thingsOf_21 : decode cX9_thingsOf 21 = .ok (.iconst 1, 1) := by decide +kernel
theorem dX9_thingsOf_22 : decode cX9_thingsOf 22 = .ok (.aload_n 1, 1) := by decide +kernel
theorem dX9_thingsOf_23 : decode cX9_thingsOf 23 = .ok (.iload_n 3, 1) := by decide +kernel
theorem dX9_thingsOf_24 : decode cX9_thingsOf 24 = .ok (.invokevirtual 89, 3) := by decide +kernel
theorem dX9_thingsOf_27 : decode cX9_thingsOf 27 = .ok (.ishl, 1) := by decide +kernel
theorem dX9_thingsOf_28 : decode cX9_thingsOf 28 = .ok (.ior, 1) := by decide +kernel
theorem dX9_thingsOf_29 : decode cX9_thingsOf 29 = .ok (.istore_n 2, 1) := by decide +kernel
theorem dX9_thingsOf_30 : decode cX9_thingsOf 30 = .ok (.iinc 3 1, 3) := by decide +kernel
theorem dX9_thingsOf_33 : decode cX9_thingsOf 33 = .ok (.goto (-29), 3) := by decide +kernel
theorem dX9_thingsOf_36 : decode cX9_thingsOf 36 = .ok (.iload_n 2, 1) := by decide +kernel
theorem dX9_thingsOf_37 : decode cX9_thingsOf 37 = .ok (.ireturn, 1) := by decide +kernel
theorem q3_190 : Cond.methodLink RX9 89 yX4_thingAt ∈ TT := tq3 190 rfl rfl
theorem lk_RX9_89 : vlk RX9 89 yX4_thingAt cX4_thingAt 2 (some .int) 1 := ⟨List.forall_mem_cons.mpr ⟨q3_190, List.forall_mem_cons.mpr ⟨q3_5, List.forall_mem_cons.mpr ⟨q3_6, List.forall_mem_cons.mpr ⟨q1_4, fun _ h => absurd h List.not_mem_nil⟩⟩⟩⟩, q3_7, by decide, by decide, by decide +kernel⟩
def F_X9_thingsOf_b30 (s_a1 : S4) (s_o : S9) (K4 : Int32 → Int32 → Option (Int32)) (v2 : Int32) (v3 : Int32) : Option (Int32) := nm (v3 + 1) fun v3_1 => K4 v2 v3_1
def F_X9_thingsOf_b4 (s_a1 : S4) (s_o : S9) : Nat → Int32 → Int32 → Option (Int32)
  | 0, _, _ => none
  | n + 1, v2, v3 => (if (s9_size s_o) ≤ v3 then some (v2) else (F_X9_binds s_o v3).bind fun q_2 => (if q_2 = 0 then F_X9_thingsOf_b30 s_a1 s_o (F_X9_thingsOf_b4 s_a1 s_o n) v2 v3 else (F_X4_thingAt s_a1 v3).bind fun q_3 => nm (v2 ||| (1 <<< (q_3 &&& 31))) fun v2_4 => F_X9_thingsOf_b30 s_a1 s_o (F_X9_thingsOf_b4 s_a1 s_o n) v2_4 v3))
def F_X9_thingsOf (s_a1 : S4) (s_o : S9) : Option (Int32) := nm 0 fun v2_5 => nm 0 fun v3_6 => F_X9_thingsOf_b4 s_a1 s_o fu v2_5 v3_6
def w_X9_thingsOf (a1 o : Nat → Nat) (cB cI cJ cZ : ClassId) (s_a1 : S4) (s_o : S9) : va_W := [(a1 0, .inr (4, [.ref (a1 1), .ref (a1 2), .ref (a1 3), .int (s4_most s_a1), .int (s4_size s_a1)])), (a1 1, .inl (cI, 8, .inl (s4_words s_a1))), (a1 2, .inl (cI, 8, .inl (s4_things s_a1))), (a1 3, .inl (cI, 8, .inl (s4_befores s_a1))), (o 0, .inr (7, [.ref (o 1), .ref (o 2), .ref (o 3), .int (s9_size s_o), .int (s9_binding s_o)])), (o 1, .inl (cI, 8, .inl (s9_states s_o))), (o 2, .inl (cI, 8, .inl (s9_anchors s_o))), (o 3, .inl (cI, 8, .inl (s9_latest s_o)))]
abbrev rm_X9_thingsOf : Room := { frames := 2, cells := 0, slots := 0, locals := 42 }
set_option maxHeartbeats 4000000 in
set_option maxRecDepth 100000 in
theorem c_X9_thingsOf (l : Launch) (D : va_G) (cB cI cJ cZ : ClassId) (a1 o : Nat → Nat) (s_a1 : S4) (s_o : S9) (r : Int32) (hf : F_X9_thingsOf s_a1 s_o = some r) : gM l D (tyL cB cI cJ cZ) yX9_thingsOf cX9_thingsOf 4 (some .int) rm_X9_thingsOf [.ref (o 0), .ref (a1 0)] (w_X9_thingsOf a1 o cB cI cJ cZ s_a1 s_o) (some (.int r)) (w_X9_thingsOf a1 o cB cI cJ cZ s_a1 s_o) := by
  refine met_of (by decide) (Nat.le_of_ble_eq_true rfl) ?_
  intro p e s m args below meth c A cx hr hA
  show gW p l e rm_X9_thingsOf s m args below meth c D A 4 _ _ [(0, .ref (o 0)), (1, .ref (a1 0))] 0 []
  have h30 : ∀ (K4 : Int32 → Int32 → Option (Int32)), (∀ (v2 : Int32) (v3 : Int32), K4 v2 v3 = some r → gW p l e rm_X9_thingsOf s m args below meth c D A 4 (MQ below (QM D (tyL cB cI cJ cZ) (some (.int r)) (w_X9_thingsOf a1 o cB cI cJ cZ s_a1 s_o) (w_X9_thingsOf a1 o cB cI cJ cZ s_a1 s_o) s.heap.size) args s 0 0 A) (w_X9_thingsOf a1 o cB cI cJ cZ s_a1 s_o) [(0, .ref (o 0)), (1, .ref (a1 0)), (2, .int v2), (3, .int v3)] 4 []) → ∀ (v2 : Int32) (v3 : Int32), F_X9_thingsOf_b30 s_a1 s_o K4 v2 v3 = some r → gW p l e rm_X9_thingsOf s m args below meth c D A 4 (MQ below (QM D (tyL cB cI cJ cZ) (some (.int r)) (w_X9_thingsOf a1 o cB cI cJ cZ s_a1 s_o) (w_X9_thingsOf a1 o cB cI cJ cZ s_a1 s_o) s.heap.size) args s 0 0 A) (w_X9_thingsOf a1 o cB cI cJ cZ s_a1 s_o) [(0, .ref (o 0)), (1, .ref (a1 0)), (2, .int v2), (3, .int v3)] 30 [] := by
    intro K4 k4 v2 v3 hf
    rw [F_X9_thingsOf_b30] at hf
    refine g_inc cx (L2 := fun v3_1 => [(3, .int v3_1), (0, .ref (o 0)), (1, .ref (a1 0)), (2, .int v2)]) 3 hf dX9_thingsOf_30 rfl (k_inc1 _) (Nat.le_of_ble_eq_true rfl) (fun _ => rfl) (fun v3_1 hf => ?_)
    refine g_goto (tgt := 4) cx dX9_thingsOf_33 rfl ?_
    refine g_sub [1, 2, 3, 0] rfl ?_
    exact k4 _ _ hf
  have h4 : ∀ (n : Nat) (v2 : Int32) (v3 : Int32), F_X9_thingsOf_b4 s_a1 s_o n v2 v3 = some r → gW p l e rm_X9_thingsOf s m args below meth c D A 4 (MQ below (QM D (tyL cB cI cJ cZ) (some (.int r)) (w_X9_thingsOf a1 o cB cI cJ cZ s_a1 s_o) (w_X9_thingsOf a1 o cB cI cJ cZ s_a1 s_o) s.heap.size) args s 0 0 A) (w_X9_thingsOf a1 o cB cI cJ cZ s_a1 s_o) [(0, .ref (o 0)), (1, .ref (a1 0)), (2, .int v2), (3, .int v3)] 4 [] := by
    intro n
    induction n with
    | zero => intro v2 v3 hf; rw [F_X9_thingsOf_b4] at hf; cases hf
    | succ n ih =>
      intro v2 v3 hf
      rw [F_X9_thingsOf_b4] at hf
      refine g_iln cx 3 dX9_thingsOf_4 rfl ?_
      refine g_aln cx 0 dX9_thingsOf_5 rfl ?_
      refine fg_RX9_27 cx 4 rfl rfl dX9_thingsOf_6 ?_
      refine g_ic_ge (tgt := 36) cx hf dX9_thingsOf_9 rfl (fun hf => ?_) (fun hf => ?_)
      · refine g_iln cx 2 dX9_thingsOf_36 rfl ?_
        exact g_iret (ovf := fun (r : Int32) => (some (.int r))) (wf := fun (r : Int32) => (w_X9_thingsOf a1 o cB cI cJ cZ s_a1 s_o)) cx hA hr hf rfl rfl dX9_thingsOf_37
      · refine g_aln cx 0 dX9_thingsOf_12 rfl ?_
        refine g_iln cx 3 dX9_thingsOf_13 rfl ?_
        refine ob hf (fun q_2 hq_2 hf => ?_)
        refine g_callViR cx lk_RX9_85 (c_X9_binds l D cB cI cJ cZ o s_o v3 q_2 hq_2) rfl [4, 5, 6, 7] rfl rfl (ci := 7) (q1 := 0) rfl rfl rfl (Nat.le_of_ble_eq_true rfl) ⟨rfl, rfl, Nat.le_of_ble_eq_true rfl, Nat.le_of_ble_eq_true rfl⟩ dX9_thingsOf_14 ?_
        refine g_if_eq (tgt := 30) cx hf dX9_thingsOf_17 rfl (fun hf => ?_) (fun hf => ?_)
        · exact h30 _ ih _ _ hf
        · refine g_iln cx 2 dX9_thingsOf_20 rfl ?_
          refine g_ic cx dX9_thingsOf_21 k_ic1 ?_
          refine g_aln cx 1 dX9_thingsOf_22 rfl ?_
          refine g_iln cx 3 dX9_thingsOf_23 rfl ?_
          refine ob hf (fun q_3 hq_3 hf => ?_)
          refine g_callViR cx lk_RX9_89 (c_X4_thingAt l D cB cI cJ cZ a1 s_a1 v3 q_3 hq_3) rfl [0, 1, 2, 3] rfl rfl (ci := 4) (q1 := 0) rfl rfl rfl (Nat.le_of_ble_eq_true rfl) ⟨rfl, rfl, Nat.le_of_ble_eq_true rfl, Nat.le_of_ble_eq_true rfl⟩ dX9_thingsOf_24 ?_
          refine g_ishl cx dX9_thingsOf_27 ?_
          refine g_ior cx dX9_thingsOf_28 ?_
          refine g_isn cx (L2 := fun v2_4 => [(2, .int v2_4), (0, .ref (o 0)), (1, .ref (a1 0)), (3, .int v3)]) hf dX9_thingsOf_29 (Nat.le_of_ble_eq_true rfl) (fun _ => rfl) (fun v2_4 hf => ?_)
          refine g_sub [1, 2, 0, 3] rfl ?_
          exact h30 _ ih _ _ hf
  rw [F_X9_thingsOf] at hf
  refine g_ic cx dX9_thingsOf_0 k_ic0 ?_
  refine g_isn cx (L2 := fun v2_5 => [(2, .int v2_5), (0, .ref (o 0)), (1, .ref (a1 0))]) hf dX9_thingsOf_1 (Nat.le_of_ble_eq_true rfl) (fun _ => rfl) (fun v2_5 hf => ?_)
  refine g_ic cx dX9_thingsOf_2 k_ic0 ?_
  refine g_isn cx (L2 := fun v3_6 => [(3, .int v3_6), (2, .int v2_5), (0, .ref (o 0)), (1, .ref (a1 0))]) hf dX9_thingsOf_3 (Nat.le_of_ble_eq_true rfl) (fun _ => rfl) (fun v3_6 hf => ?_)
  refine g_sub [2, 3, 1, 0] rfl ?_
  exact h4 fu _ _ hf
theorem dX9_left_0 : decode cX9_left 0 = .ok (.iconst 0, 1) := by decide +kernel
theorem dX9_left_1 : decode cX9_left 1 = .ok (.istore_n 2, 1) := by decide +kernel
theorem dX9_left_2 : decode cX9_left 2 = .ok (.iconst 0, 1) := by decide +kernel
theorem dX9_left_3 : decode cX9_left 3 = .ok (.istore_n 3, 1) := by decide +kernel
theorem dX9_left_4 : decode cX9_left 4 = .ok (.iconst 0, 1) := by decide +kernel
theorem dX9_left_5 : decode cX9_left 5 = .ok (.istore 4, 2) := by decide +kernel
theorem dX9_left_7 : decode cX9_left 7 = .ok (.iload 4, 2) := by decide +kernel
theorem dX9_left_9 : decode cX9_left 9 = .ok (.aload_n 0, 1) := by decide +kernel
theorem dX9_left_10 : decode cX9_left 10 = .ok (.getfield 27, 3) := by decide +kernel
theorem dX9_left_13 : decode cX9_left 13 = .ok (.if_icmp .ge 87, 3) := by decide +kernel
theorem dX9_left_16 : decode cX9_left 16 = .ok (.aload_n 0, 1) := by decide +kernel
theorem dX9_left_17 : decode cX9_left 17 = .ok (.iload 4, 2) := by decide +kernel
theorem dX9_left_19 : decode cX9_left 19 = .ok (.invokevirtual 92, 3) := by decide +kernel
theorem dX9_left_22 : decode cX9_left 22 = .ok (.ifCond .eq 20, 3) := by decide +kernel
theorem dX9_left_25 : decode cX9_left 25 = .ok (.iload_n 2, 1) := by decide +kernel
theorem dX9_left_26 : decode cX9_left 26 = .ok (.aload_n 0, 1) := by decide +kernel
theorem dX9_left_27 : decode cX9_left 27 = .ok (.iload 4, 2) := by decide +kernel
theorem dX9_left_29 : decode cX9_left 29 = .ok (.invokevirtual 95, 3) := by decide +kernel
theorem dX9_left_32 : decode cX9_left 32 = .ok (.ishr, 1) := by decide +kernel
theorem dX9_left_33 : decode cX9_left 33 = .ok (.iconst 1, 1) := by decide +kernel
theorem dX9_left_34 : decode cX9_left 34 = .ok (.iand, 1) := by decide +kernel
theorem dX9_left_35 : decode cX9_left 35 = .ok (.ifCond .eq 7, 3) := by decide +kernel
theorem dX9_left_38 : decode cX9_left 38 = .ok (.iconst 1, 1) := by decide +kernel
theorem dX9_left_39 : decode cX9_left 39 = .ok (.goto 4, 3) := by decide +kernel
theorem dX9_left_42 : decode cX9_left 42 = .ok (.iconst 0, 1) := by decide +kernel
theorem dX9_left_43 : decode cX9_left 43 = .ok (.istore 5, 2) := by decide +kernel
theorem dX9_left_45 : decode cX9_left 45 = .ok (.iload_n 1, 1) := by decide +kernel
theorem dX9_left_46 : decode cX9_left 46 = .ok (.iload 4, 2) := by decide +kernel
theorem dX9_left_48 : decode cX9_left 48 = .ok (.ishr, 1) := by decide +kernel
theorem dX9_left_49 : decode cX9_left 49 = .ok (.iconst 1, 1) := by decide +kernel
theorem dX9_left_50 : decode cX9_left 50 = .ok (.iand, 1) := by decide +kernel
theorem dX9_left_51 : decode cX9_left 51 = .ok (.ifCond .ne 8, 3) := by decide +kernel
theorem dX9_left_54 : decode cX9_left 54 = .ok (.iload 5, 2) := by decide +kernel
theorem dX9_left_56 : decode cX9_left 56 = .ok (.ifCond .eq 13, 3) := by decide +kernel
theorem dX9_left_59 : decode cX9_left 59 = .ok (.iload_n 2, 1) := by decide +kernel
theorem dX9_left_60 : decode cX9_left 60 = .ok (.iconst 1, 1) := by decide +kernel
theorem dX9_left_61 : decode cX9_left 61 = .ok (.iload 4, 2) := by decide +kernel
theorem dX9_left_63 : decode cX9_left 63 = .ok (.ishl, 1) := by decide +kernel
theorem dX9_left_64 : decode cX9_left 64 = .ok (.ior, 1) := by decide +kernel
theorem dX9_left_65 : decode cX9_left 65 = .ok (.istore_n 2, 1) := by decide +kernel
theorem dX9_left_66 : decode cX9_left 66 = .ok (.goto 28, 3) := by decide +kernel
theorem dX9_left_69 : decode cX9_left 69 = .ok (.aload_n 0, 1) := by decide +kernel
theorem dX9_left_70 : decode cX9_left 70 = .ok (.iload 4, 2) := by decide +kernel
theorem dX9_left_72 : decode cX9_left 72 = .ok (.invokevirtual 92, 3) := by decide +kernel
theorem dX9_left_75 : decode cX9_left 75 = .ok (.ifCond .eq 19, 3) := by decide +kernel
theorem dX9_left_78 : decode cX9_left 78 = .ok (.iload_n 3, 1) := by decide +kernel
theorem dX9_left_79 : decode cX9_left 79 = .ok (.iconst 1, 1) := by decide +kernel
theorem dX9_left_80 : decode cX9_left 80 = .ok (.iload 4, 2) := by decide +kernel
theorem dX9_left_82 : decode cX9_left 82 = .ok (.ishl, 1) := by decide +kernel
theorem dX9_left_83 : decode cX9_left 83 = .ok (.iconst 1, 1) := by decide +kernel
theorem dX9_left_84 : decode cX9_left 84 = .ok (.aload_n 0, 1) := by decide +kernel
theorem dX9_left_85 : decode cX9_left 85 = .ok (.iload 4, 2) := by decide +kernel
theorem dX9_left_87 : decode cX9_left 87 = .ok (.invokevirtual 95, 3) := by decide +kernel
theorem dX9_left_90 : decode cX9_left 90 = .ok (.ishl, 1) := by decide +kernel
theorem dX9_left_91 : decode cX9_left 91 = .ok (.ior, 1) := by decide +kernel
theorem dX9_left_92 : decode cX9_left 92 = .ok (.ior, 1) := by decide +kernel
theorem dX9_left_93 : decode cX9_left 93 = .ok (.istore_n 3, 1) := by decide +kernel
theorem dX9_left_94 : decode cX9_left 94 = .ok (.iinc 4 1, 3) := by decide +kernel
theorem dX9_left_97 : decode cX9_left 97 = .ok (.goto (-90), 3) := by decide +kernel
theorem dX9_left_100 : decode cX9_left 100 = .ok (.iload_n 3, 1) := by decide +kernel
theorem dX9_left_101 : decode cX9_left 101 = .ok (.ireturn, 1) := by decide +kernel
theorem q3_158 : Cond.instanceMethod yX9_rhymed ∈ TT := tq3 158 rfl rfl
theorem q3_159 : Cond.selects RX9 yX9_rhymed yX9_rhymed ∈ TT := tq3 159 rfl rfl
theorem q3_160 : Cond.code yX9_rhymed cX9_rhymed 2 (some .boolean) ∈ TT := tq3 160 rfl rfl
theorem q3_162 : Cond.instanceMethod yX9_anchor ∈ TT := tq3 162 rfl rfl
theorem q3_163 : Cond.selects RX9 yX9_anchor yX9_anchor ∈ TT := tq3 163 rfl rfl
theorem q3_164 : Cond.code yX9_anchor cX9_anchor 2 (some .int) ∈ TT := tq3 164 rfl rfl
theorem q3_199 : Cond.methodLink RX9 92 yX9_rhymed ∈ TT := tq3 199 rfl rfl
theorem q3_200 : Cond.methodLink RX9 95 yX9_anchor ∈ TT := tq3 200 rfl rfl
theorem lk_RX9_92 : vlk RX9 92 yX9_rhymed cX9_rhymed 2 (some .boolean) 1 := ⟨List.forall_mem_cons.mpr ⟨q3_199, List.forall_mem_cons.mpr ⟨q3_158, List.forall_mem_cons.mpr ⟨q3_159, List.forall_mem_cons.mpr ⟨q1_3, fun _ h => absurd h List.not_mem_nil⟩⟩⟩⟩, q3_160, by decide, by decide, by decide +kernel⟩
theorem lk_RX9_95 : vlk RX9 95 yX9_anchor cX9_anchor 2 (some .int) 1 := ⟨List.forall_mem_cons.mpr ⟨q3_200, List.forall_mem_cons.mpr ⟨q3_162, List.forall_mem_cons.mpr ⟨q3_163, List.forall_mem_cons.mpr ⟨q1_3, fun _ h => absurd h List.not_mem_nil⟩⟩⟩⟩, q3_164, by decide, by decide, by decide +kernel⟩
def F_X9_left_b94 (s_o : S9) (x1 : Int32) (K7 : Int32 → Int32 → Int32 → Option (Int32)) (v2 : Int32) (v3 : Int32) (v4 : Int32) : Option (Int32) := nm (v4 + 1) fun v4_1 => K7 v2 v3 v4_1
def F_X9_left_b59 (s_o : S9) (x1 : Int32) (K7 : Int32 → Int32 → Int32 → Option (Int32)) (v2 : Int32) (v3 : Int32) (v4 : Int32) : Option (Int32) := nm (v2 ||| (1 <<< (v4 &&& 31))) fun v2_2 => F_X9_left_b94 s_o x1 K7 v2_2 v3 v4
def F_X9_left_b43 (s_o : S9) (x1 : Int32) (K7 : Int32 → Int32 → Int32 → Option (Int32)) (v2 : Int32) (v3 : Int32) (v4 : Int32) (k0 : Int32) : Option (Int32) := nm k0 fun v5_3 => (if ((x1 >>> (v4 &&& 31)) &&& 1) = 0 then (if v5_3 = 0 then (F_X9_rhymed s_o v4).bind fun q_4 => (if q_4 = 0 then F_X9_left_b94 s_o x1 K7 v2 v3 v4 else (F_X9_anchor s_o v4).bind fun q_5 => nm (v3 ||| ((1 <<< (v4 &&& 31)) ||| (1 <<< (q_5 &&& 31)))) fun v3_6 => F_X9_left_b94 s_o x1 K7 v2 v3_6 v4) else F_X9_left_b59 s_o x1 K7 v2 v3 v4) else F_X9_left_b59 s_o x1 K7 v2 v3 v4)
def F_X9_left_b42 (s_o : S9) (x1 : Int32) (K7 : Int32 → Int32 → Int32 → Option (Int32)) (v2 : Int32) (v3 : Int32) (v4 : Int32) : Option (Int32) := F_X9_left_b43 s_o x1 K7 v2 v3 v4 0
def F_X9_left_b7 (s_o : S9) (x1 : Int32) : Nat → Int32 → Int32 → Int32 → Option (Int32)
  | 0, _, _, _ => none
  | n + 1, v2, v3, v4 => (if (s9_size s_o) ≤ v4 then some (v3) else (F_X9_rhymed s_o v4).bind fun q_7 => (if q_7 = 0 then F_X9_left_b42 s_o x1 (F_X9_left_b7 s_o x1 n) v2 v3 v4 else (F_X9_anchor s_o v4).bind fun q_8 => (if ((v2 >>> (q_8 &&& 31)) &&& 1) = 0 then F_X9_left_b42 s_o x1 (F_X9_left_b7 s_o x1 n) v2 v3 v4 else F_X9_left_b43 s_o x1 (F_X9_left_b7 s_o x1 n) v2 v3 v4 1)))
def F_X9_left (s_o : S9) (x1 : Int32) : Option (Int32) := nm 0 fun v2_9 => nm 0 fun v3_10 => nm 0 fun v4_11 => F_X9_left_b7 s_o x1 fu v2_9 v3_10 v4_11
def w_X9_left (o : Nat → Nat) (cB cI cJ cZ : ClassId) (s_o : S9) : va_W := [(o 0, .inr (7, [.ref (o 1), .ref (o 2), .ref (o 3), .int (s9_size s_o), .int (s9_binding s_o)])), (o 1, .inl (cI, 8, .inl (s9_states s_o))), (o 2, .inl (cI, 8, .inl (s9_anchors s_o))), (o 3, .inl (cI, 8, .inl (s9_latest s_o)))]
abbrev rm_X9_left : Room := { frames := 2, cells := 0, slots := 0, locals := 42 }
set_option maxHeartbeats 4000000 in
set_option maxRecDepth 100000 in
theorem c_X9_left (l : Launch) (D : va_G) (cB cI cJ cZ : ClassId) (o : Nat → Nat) (s_o : S9) (x1 : Int32) (r : Int32) (hf : F_X9_left s_o x1 = some r) : gM l D (tyL cB cI cJ cZ) yX9_left cX9_left 6 (some .int) rm_X9_left [.ref (o 0), .int x1] (w_X9_left o cB cI cJ cZ s_o) (some (.int r)) (w_X9_left o cB cI cJ cZ s_o) := by
  refine met_of (by decide) (Nat.le_of_ble_eq_true rfl) ?_
  intro p e s m args below meth c A cx hr hA
  show gW p l e rm_X9_left s m args below meth c D A 6 _ _ [(0, .ref (o 0)), (1, .int x1)] 0 []
  have h94 : ∀ (K7 : Int32 → Int32 → Int32 → Option (Int32)), (∀ (v2 : Int32) (v3 : Int32) (v4 : Int32), K7 v2 v3 v4 = some r → gW p l e rm_X9_left s m args below meth c D A 6 (MQ below (QM D (tyL cB cI cJ cZ) (some (.int r)) (w_X9_left o cB cI cJ cZ s_o) (w_X9_left o cB cI cJ cZ s_o) s.heap.size) args s 0 0 A) (w_X9_left o cB cI cJ cZ s_o) [(0, .ref (o 0)), (1, .int x1), (2, .int v2), (3, .int v3), (4, .int v4)] 7 []) → ∀ (v2 : Int32) (v3 : Int32) (v4 : Int32), F_X9_left_b94 s_o x1 K7 v2 v3 v4 = some r → gW p l e rm_X9_left s m args below meth c D A 6 (MQ below (QM D (tyL cB cI cJ cZ) (some (.int r)) (w_X9_left o cB cI cJ cZ s_o) (w_X9_left o cB cI cJ cZ s_o) s.heap.size) args s 0 0 A) (w_X9_left o cB cI cJ cZ s_o) [(0, .ref (o 0)), (1, .int x1), (2, .int v2), (3, .int v3), (4, .int v4)] 94 [] := by
    intro K7 k7 v2 v3 v4 hf
    rw [F_X9_left_b94] at hf
    refine g_inc cx (L2 := fun v4_1 => [(4, .int v4_1), (0, .ref (o 0)), (1, .int x1), (2, .int v2), (3, .int v3)]) 4 hf dX9_left_94 rfl (k_inc1 _) (Nat.le_of_ble_eq_true rfl) (fun _ => rfl) (fun v4_1 hf => ?_)
    refine g_goto (tgt := 7) cx dX9_left_97 rfl ?_
    refine g_sub [1, 2, 3, 4, 0] rfl ?_
    exact k7 _ _ _ hf
  have h59 : ∀ (K7 : Int32 → Int32 → Int32 → Option (Int32)), (∀ (v2 : Int32) (v3 : Int32) (v4 : Int32), K7 v2 v3 v4 = some r → gW p l e rm_X9_left s m args below meth c D A 6 (MQ below (QM D (tyL cB cI cJ cZ) (some (.int r)) (w_X9_left o cB cI cJ cZ s_o) (w_X9_left o cB cI cJ cZ s_o) s.heap.size) args s 0 0 A) (w_X9_left o cB cI cJ cZ s_o) [(0, .ref (o 0)), (1, .int x1), (2, .int v2), (3, .int v3), (4, .int v4)] 7 []) → ∀ (v2 : Int32) (v3 : Int32) (v4 : Int32), F_X9_left_b59 s_o x1 K7 v2 v3 v4 = some r → gW p l e rm_X9_left s m args below meth c D A 6 (MQ below (QM D (tyL cB cI cJ cZ) (some (.int r)) (w_X9_left o cB cI cJ cZ s_o) (w_X9_left o cB cI cJ cZ s_o) s.heap.size) args s 0 0 A) (w_X9_left o cB cI cJ cZ s_o) [(0, .ref (o 0)), (1, .int x1), (2, .int v2), (3, .int v3), (4, .int v4)] 59 [] := by
    intro K7 k7 v2 v3 v4 hf
    rw [F_X9_left_b59] at hf
    refine g_iln cx 2 dX9_left_59 rfl ?_
    refine g_ic cx dX9_left_60 k_ic1 ?_
    refine g_il cx 4 dX9_left_61 rfl ?_
    refine g_ishl cx dX9_left_63 ?_
    refine g_ior cx dX9_left_64 ?_
    refine g_isn cx (L2 := fun v2_2 => [(2, .int v2_2), (0, .ref (o 0)), (1, .int x1), (3, .int v3), (4, .int v4)]) hf dX9_left_65 (Nat.le_of_ble_eq_true rfl) (fun _ => rfl) (fun v2_2 hf => ?_)
    refine g_goto (tgt := 94) cx dX9_left_66 rfl ?_
    refine g_sub [1, 2, 0, 3, 4] rfl ?_
    exact h94 _ k7 _ _ _ hf
  have h43 : ∀ (K7 : Int32 → Int32 → Int32 → Option (Int32)), (∀ (v2 : Int32) (v3 : Int32) (v4 : Int32), K7 v2 v3 v4 = some r → gW p l e rm_X9_left s m args below meth c D A 6 (MQ below (QM D (tyL cB cI cJ cZ) (some (.int r)) (w_X9_left o cB cI cJ cZ s_o) (w_X9_left o cB cI cJ cZ s_o) s.heap.size) args s 0 0 A) (w_X9_left o cB cI cJ cZ s_o) [(0, .ref (o 0)), (1, .int x1), (2, .int v2), (3, .int v3), (4, .int v4)] 7 []) → ∀ (v2 : Int32) (v3 : Int32) (v4 : Int32) (k0 : Int32), F_X9_left_b43 s_o x1 K7 v2 v3 v4 k0 = some r → gW p l e rm_X9_left s m args below meth c D A 6 (MQ below (QM D (tyL cB cI cJ cZ) (some (.int r)) (w_X9_left o cB cI cJ cZ s_o) (w_X9_left o cB cI cJ cZ s_o) s.heap.size) args s 0 0 A) (w_X9_left o cB cI cJ cZ s_o) [(0, .ref (o 0)), (1, .int x1), (2, .int v2), (3, .int v3), (4, .int v4)] 43 [.int k0] := by
    intro K7 k7 v2 v3 v4 k0 hf
    rw [F_X9_left_b43] at hf
    refine g_is cx (L2 := fun v5_3 => [(5, .int v5_3), (0, .ref (o 0)), (1, .int x1), (2, .int v2), (3, .int v3), (4, .int v4)]) hf dX9_left_43 (Nat.le_of_ble_eq_true rfl) (fun _ => rfl) (fun v5_3 hf => ?_)
    refine g_iln cx 2 dX9_left_45 rfl ?_
    refine g_il cx 5 dX9_left_46 rfl ?_
    refine g_ishr cx dX9_left_48 ?_
    refine g_ic cx dX9_left_49 k_ic1 ?_
    refine g_iand cx dX9_left_50 ?_
    refine g_if_ne (tgt := 59) cx hf dX9_left_51 rfl (fun hf => ?_) (fun hf => ?_)
    · refine g_sub [1, 2, 3, 4, 5] rfl ?_
      exact h59 _ k7 _ _ _ hf
    · refine g_il cx 0 dX9_left_54 rfl ?_
      refine g_if_eq (tgt := 69) cx hf dX9_left_56 rfl (fun hf => ?_) (fun hf => ?_)
      · refine g_aln cx 1 dX9_left_69 rfl ?_
        refine g_il cx 5 dX9_left_70 rfl ?_
        refine ob hf (fun q_4 hq_4 hf => ?_)
        refine g_callViR cx lk_RX9_92 (c_X9_rhymed l D cB cI cJ cZ o s_o v4 q_4 hq_4) rfl [0, 1, 2, 3] rfl rfl (ci := 7) (q1 := 0) rfl rfl rfl (Nat.le_of_ble_eq_true rfl) ⟨rfl, rfl, Nat.le_of_ble_eq_true rfl, Nat.le_of_ble_eq_true rfl⟩ dX9_left_72 ?_
        refine g_if_eq (tgt := 94) cx hf dX9_left_75 rfl (fun hf => ?_) (fun hf => ?_)
        · refine g_sub [1, 2, 3, 4, 5] rfl ?_
          exact h94 _ k7 _ _ _ hf
        · refine g_iln cx 4 dX9_left_78 rfl ?_
          refine g_ic cx dX9_left_79 k_ic1 ?_
          refine g_il cx 5 dX9_left_80 rfl ?_
          refine g_ishl cx dX9_left_82 ?_
          refine g_ic cx dX9_left_83 k_ic1 ?_
          refine g_aln cx 1 dX9_left_84 rfl ?_
          refine g_il cx 5 dX9_left_85 rfl ?_
          refine ob hf (fun q_5 hq_5 hf => ?_)
          refine g_callViR cx lk_RX9_95 (c_X9_anchor l D cB cI cJ cZ o s_o v4 q_5 hq_5) rfl [0, 1, 2, 3] rfl rfl (ci := 7) (q1 := 0) rfl rfl rfl (Nat.le_of_ble_eq_true rfl) ⟨rfl, rfl, Nat.le_of_ble_eq_true rfl, Nat.le_of_ble_eq_true rfl⟩ dX9_left_87 ?_
          refine g_ishl cx dX9_left_90 ?_
          refine g_ior cx dX9_left_91 ?_
          refine g_ior cx dX9_left_92 ?_
          refine g_isn cx (L2 := fun v3_6 => [(3, .int v3_6), (5, .int v5_3), (0, .ref (o 0)), (1, .int x1), (2, .int v2), (4, .int v4)]) hf dX9_left_93 (Nat.le_of_ble_eq_true rfl) (fun _ => rfl) (fun v3_6 hf => ?_)
          refine g_sub [2, 3, 4, 0, 5] rfl ?_
          exact h94 _ k7 _ _ _ hf
      · refine g_sub [1, 2, 3, 4, 5] rfl ?_
        exact h59 _ k7 _ _ _ hf
  have h42 : ∀ (K7 : Int32 → Int32 → Int32 → Option (Int32)), (∀ (v2 : Int32) (v3 : Int32) (v4 : Int32), K7 v2 v3 v4 = some r → gW p l e rm_X9_left s m args below meth c D A 6 (MQ below (QM D (tyL cB cI cJ cZ) (some (.int r)) (w_X9_left o cB cI cJ cZ s_o) (w_X9_left o cB cI cJ cZ s_o) s.heap.size) args s 0 0 A) (w_X9_left o cB cI cJ cZ s_o) [(0, .ref (o 0)), (1, .int x1), (2, .int v2), (3, .int v3), (4, .int v4)] 7 []) → ∀ (v2 : Int32) (v3 : Int32) (v4 : Int32), F_X9_left_b42 s_o x1 K7 v2 v3 v4 = some r → gW p l e rm_X9_left s m args below meth c D A 6 (MQ below (QM D (tyL cB cI cJ cZ) (some (.int r)) (w_X9_left o cB cI cJ cZ s_o) (w_X9_left o cB cI cJ cZ s_o) s.heap.size) args s 0 0 A) (w_X9_left o cB cI cJ cZ s_o) [(0, .ref (o 0)), (1, .int x1), (2, .int v2), (3, .int v3), (4, .int v4)] 42 [] := by
    intro K7 k7 v2 v3 v4 hf
    rw [F_X9_left_b42] at hf
    refine g_ic cx dX9_left_42 k_ic0 ?_
    exact h43 _ k7 _ _ _ _ hf
  have h7 : ∀ (n : Nat) (v2 : Int32) (v3 : Int32) (v4 : Int32), F_X9_left_b7 s_o x1 n v2 v3 v4 = some r → gW p l e rm_X9_left s m args below meth c D A 6 (MQ below (QM D (tyL cB cI cJ cZ) (some (.int r)) (w_X9_left o cB cI cJ cZ s_o) (w_X9_left o cB cI cJ cZ s_o) s.heap.size) args s 0 0 A) (w_X9_left o cB cI cJ cZ s_o) [(0, .ref (o 0)), (1, .int x1), (2, .int v2), (3, .int v3), (4, .int v4)] 7 [] := by
    intro n
    induction n with
    | zero => intro v2 v3 v4 hf; rw [F_X9_left_b7] at hf; cases hf
    | succ n ih =>
      intro v2 v3 v4 hf
      rw [F_X9_left_b7] at hf
      refine g_il cx 4 dX9_left_7 rfl ?_
      refine g_aln cx 0 dX9_left_9 rfl ?_
      refine fg_RX9_27 cx 0 rfl rfl dX9_left_10 ?_
      refine g_ic_ge (tgt := 100) cx hf dX9_left_13 rfl (fun hf => ?_) (fun hf => ?_)
      · refine g_iln cx 3 dX9_left_100 rfl ?_
        exact g_iret (ovf := fun (r : Int32) => (some (.int r))) (wf := fun (r : Int32) => (w_X9_left o cB cI cJ cZ s_o)) cx hA hr hf rfl rfl dX9_left_101
      · refine g_aln cx 0 dX9_left_16 rfl ?_
        refine g_il cx 4 dX9_left_17 rfl ?_
        refine ob hf (fun q_7 hq_7 hf => ?_)
        refine g_callViR cx lk_RX9_92 (c_X9_rhymed l D cB cI cJ cZ o s_o v4 q_7 hq_7) rfl [0, 1, 2, 3] rfl rfl (ci := 7) (q1 := 0) rfl rfl rfl (Nat.le_of_ble_eq_true rfl) ⟨rfl, rfl, Nat.le_of_ble_eq_true rfl, Nat.le_of_ble_eq_true rfl⟩ dX9_left_19 ?_
        refine g_if_eq (tgt := 42) cx hf dX9_left_22 rfl (fun hf => ?_) (fun hf => ?_)
        · exact h42 _ ih _ _ _ hf
        · refine g_iln cx 2 dX9_left_25 rfl ?_
          refine g_aln cx 0 dX9_left_26 rfl ?_
          refine g_il cx 4 dX9_left_27 rfl ?_
          refine ob hf (fun q_8 hq_8 hf => ?_)
          refine g_callViR cx lk_RX9_95 (c_X9_anchor l D cB cI cJ cZ o s_o v4 q_8 hq_8) rfl [0, 1, 2, 3] rfl rfl (ci := 7) (q1 := 0) rfl rfl rfl (Nat.le_of_ble_eq_true rfl) ⟨rfl, rfl, Nat.le_of_ble_eq_true rfl, Nat.le_of_ble_eq_true rfl⟩ dX9_left_29 ?_
          refine g_ishr cx dX9_left_32 ?_
          refine g_ic cx dX9_left_33 k_ic1 ?_
          refine g_iand cx dX9_left_34 ?_
          refine g_if_eq (tgt := 42) cx hf dX9_left_35 rfl (fun hf => ?_) (fun hf => ?_)
          · exact h42 _ ih _ _ _ hf
          · refine g_ic cx dX9_left_38 k_ic1 ?_
            refine g_goto (tgt := 43) cx dX9_left_39 rfl ?_
            exact h43 _ ih _ _ _ _ hf
  rw [F_X9_left] at hf
  refine g_ic cx dX9_left_0 k_ic0 ?_
  refine g_isn cx (L2 := fun v2_9 => [(2, .int v2_9), (0, .ref (o 0)), (1, .int x1)]) hf dX9_left_1 (Nat.le_of_ble_eq_true rfl) (fun _ => rfl) (fun v2_9 hf => ?_)
  refine g_ic cx dX9_left_2 k_ic0 ?_
  refine g_isn cx (L2 := fun v3_10 => [(3, .int v3_10), (2, .int v2_9), (0, .ref (o 0)), (1, .int x1)]) hf dX9_left_3 (Nat.le_of_ble_eq_true rfl) (fun _ => rfl) (fun v3_10 hf => ?_)
  refine g_ic cx dX9_left_4 k_ic0 ?_
  refine g_is cx (L2 := fun v4_11 => [(4, .int v4_11), (3, .int v3_10), (2, .int v2_9), (0, .ref (o 0)), (1, .int x1)]) hf dX9_left_5 (Nat.le_of_ble_eq_true rfl) (fun _ => rfl) (fun v4_11 hf => ?_)
  refine g_sub [3, 4, 2, 1, 0] rfl ?_
  exact h7 fu _ _ _ hf
theorem dX9_keyLine_0 : decode cX9_keyLine 0 = .ok (.bipush (-9), 2) := by decide +kernel
theorem dX9_keyLine_2 : decode cX9_keyLine 2 = .ok (.istore_n 1, 1) := by decide +kernel
theorem dX9_keyLine_3 : decode cX9_keyLine 3 = .ok (.bipush 9, 2) := by decide +kernel
theorem dX9_keyLine_5 : decode cX9_keyLine 5 = .ok (.istore_n 2, 1) := by decide +kernel
theorem dX9_keyLine_6 : decode cX9_keyLine 6 = .ok (.iconst 0, 1) := by decide +kernel
theorem dX9_keyLine_7 : decode cX9_keyLine 7 = .ok (.istore_n 3, 1) := by decide +kernel
theorem dX9_keyLine_8 : decode cX9_keyLine 8 = .ok (.iload_n 3, 1) := by decide +kernel
theorem dX9_keyLine_9 : decode cX9_keyLine 9 = .ok (.aload_n 0, 1) := by decide +kernel
theorem dX9_keyLine_10 : decode cX9_keyLine 10 = .ok (.getfield 27, 3) := by decide +kernel
theorem dX9_keyLine_13 : decode cX9_keyLine 13 = .ok (.if_icmp .ge 32, 3) := by decide +kernel
theorem dX9_keyLine_16 : decode cX9_keyLine 16 = .ok (.aload_n 0, 1) := by decide +kernel
theorem dX9_keyLine_17 : decode cX9_keyLine 17 = .ok (.iconst 1, 1) := by decide +kernel
theorem dX9_keyLine_18 : decode cX9_keyLine 18 = .ok (.iload_n 3, 1) := by decide +kernel
theorem dX9_keyLine_19 : decode cX9_keyLine 19 = .ok (.ishl, 1) := by decide +kernel
theorem dX9_keyLine_20 : decode cX9_keyLine 20 = .ok (.invokevirtual 98, 3) := by decide +kernel
theorem dX9_keyLine_23 : decode cX9_keyLine 23 = .ok (.invokestatic 101, 3) := by decide +kernel
theorem dX9_keyLine_26 : decode cX9_keyLine 26 = .ok (.istore 4, 2) := by decide +kernel
theorem dX9_keyLine_28 : decode cX9_keyLine 28 = .ok (.iload 4, 2) := by decide +kernel
theorem dX9_keyLine_30 : decode cX9_keyLine 30 = .ok (.iload_n 2, 1) := by decide +kernel
theorem dX9_keyLine_31 : decode cX9_keyLine 31 = .ok (.if_icmp .ge 8, 3) := by decide +kernel
theorem dX9_keyLine_34 : decode cX9_keyLine 34 = .ok (.iload 4, 2) := by decide +kernel
theorem dX9_keyLine_36 : decode cX9_keyLine 36 = .ok (.istore_n 2, 1) := by decide +kernel
theorem dX9_keyLine_37 : decode cX9_keyLine 37 = .ok (.iload_n 3, 1) := by decide +kernel
theorem dX9_keyLine_38 : decode cX9_keyLine 38 = .ok (.istore_n 1, 1) := by decide +kernel
theorem dX9_keyLine_39 : decode cX9_keyLine 39 = .ok (.iinc 3 1, 3) := by decide +kernel
theorem dX9_keyLine_42 : decode cX9_keyLine 42 = .ok (.goto (-34), 3) := by decide +kernel
theorem dX9_keyLine_45 : decode cX9_keyLine 45 = .ok (.iload_n 1, 1) := by decide +kernel
theorem dX9_keyLine_46 : decode cX9_keyLine 46 = .ok (.ireturn, 1) := by decide +kernel
theorem k_bp9 : (Int8.ofInt (9)).toInt32 = 9 := by decide
theorem q1_20 : Cond.initialized RJ6 ∈ TT := tq1 20 rfl rfl
theorem q3_196 : Cond.instanceMethod yX9_left ∈ TT := tq3 196 rfl rfl
theorem q3_197 : Cond.selects RX9 yX9_left yX9_left ∈ TT := tq3 197 rfl rfl
theorem q3_198 : Cond.code yX9_left cX9_left 6 (some .int) ∈ TT := tq3 198 rfl rfl
theorem q3_209 : Cond.methodLink RX9 98 yX9_left ∈ TT := tq3 209 rfl rfl
theorem q3_210 : Cond.methodLink RX9 101 yJ6_bitCount_0f7a4 ∈ TT := tq3 210 rfl rfl
theorem q3_211 : Cond.static yJ6_bitCount_0f7a4 ∈ TT := tq3 211 rfl rfl
theorem q3_212 : Cond.code yJ6_bitCount_0f7a4 cJ6_bitCount_0f7a4 1 (some .int) ∈ TT := tq3 212 rfl rfl
theorem lk_RX9_98 : vlk RX9 98 yX9_left cX9_left 6 (some .int) 1 := ⟨List.forall_mem_cons.mpr ⟨q3_209, List.forall_mem_cons.mpr ⟨q3_196, List.forall_mem_cons.mpr ⟨q3_197, List.forall_mem_cons.mpr ⟨q1_3, fun _ h => absurd h List.not_mem_nil⟩⟩⟩⟩, q3_198, by decide, by decide, by decide +kernel⟩
theorem lk_RX9_101 : slk RX9 101 yJ6_bitCount_0f7a4 cJ6_bitCount_0f7a4 1 (some .int) 1 := ⟨List.forall_mem_cons.mpr ⟨q3_210, List.forall_mem_cons.mpr ⟨q3_211, List.forall_mem_cons.mpr ⟨q1_20, fun _ h => absurd h List.not_mem_nil⟩⟩⟩, q3_212, by decide, by decide, by decide +kernel⟩
def F_X9_keyLine_b39 (s_o : S9) (K8 : Int32 → Int32 → Int32 → Option (Int32)) (v1 : Int32) (v2 : Int32) (v3 : Int32) : Option (Int32) := nm (v3 + 1) fun v3_1 => K8 v1 v2 v3_1
def F_X9_keyLine_b8 (s_o : S9) : Nat → Int32 → Int32 → Int32 → Option (Int32)
  | 0, _, _, _ => none
  | n + 1, v1, v2, v3 => (if (s9_size s_o) ≤ v3 then some (v1) else (F_X9_left s_o (1 <<< (v3 &&& 31))).bind fun q_2 => (F_J6_bitCount_0f7a4 q_2).bind fun q_3 => nm q_3 fun v4_4 => (if v2 ≤ v4_4 then F_X9_keyLine_b39 s_o (F_X9_keyLine_b8 s_o n) v1 v2 v3 else nm v4_4 fun v2_5 => nm v3 fun v1_6 => F_X9_keyLine_b39 s_o (F_X9_keyLine_b8 s_o n) v1_6 v2_5 v3))
def F_X9_keyLine (s_o : S9) : Option (Int32) := nm (-9) fun v1_7 => nm 9 fun v2_8 => nm 0 fun v3_9 => F_X9_keyLine_b8 s_o fu v1_7 v2_8 v3_9
def w_X9_keyLine (o : Nat → Nat) (cB cI cJ cZ : ClassId) (s_o : S9) : va_W := [(o 0, .inr (7, [.ref (o 1), .ref (o 2), .ref (o 3), .int (s9_size s_o), .int (s9_binding s_o)])), (o 1, .inl (cI, 8, .inl (s9_states s_o))), (o 2, .inl (cI, 8, .inl (s9_anchors s_o))), (o 3, .inl (cI, 8, .inl (s9_latest s_o)))]
abbrev rm_X9_keyLine : Room := { frames := 3, cells := 0, slots := 0, locals := 67 }
set_option maxHeartbeats 4000000 in
set_option maxRecDepth 100000 in
theorem c_X9_keyLine (l : Launch) (D : va_G) (cB cI cJ cZ : ClassId) (o : Nat → Nat) (s_o : S9) (r : Int32) (hf : F_X9_keyLine s_o = some r) : gM l D (tyL cB cI cJ cZ) yX9_keyLine cX9_keyLine 5 (some .int) rm_X9_keyLine [.ref (o 0)] (w_X9_keyLine o cB cI cJ cZ s_o) (some (.int r)) (w_X9_keyLine o cB cI cJ cZ s_o) := by
  refine met_of (by decide) (Nat.le_of_ble_eq_true rfl) ?_
  intro p e s m args below meth c A cx hr hA
  show gW p l e rm_X9_keyLine s m args below meth c D A 5 _ _ [(0, .ref (o 0))] 0 []
  have h39 : ∀ (K8 : Int32 → Int32 → Int32 → Option (Int32)), (∀ (v1 : Int32) (v2 : Int32) (v3 : Int32), K8 v1 v2 v3 = some r → gW p l e rm_X9_keyLine s m args below meth c D A 5 (MQ below (QM D (tyL cB cI cJ cZ) (some (.int r)) (w_X9_keyLine o cB cI cJ cZ s_o) (w_X9_keyLine o cB cI cJ cZ s_o) s.heap.size) args s 0 0 A) (w_X9_keyLine o cB cI cJ cZ s_o) [(0, .ref (o 0)), (1, .int v1), (2, .int v2), (3, .int v3)] 8 []) → ∀ (v1 : Int32) (v2 : Int32) (v3 : Int32), F_X9_keyLine_b39 s_o K8 v1 v2 v3 = some r → gW p l e rm_X9_keyLine s m args below meth c D A 5 (MQ below (QM D (tyL cB cI cJ cZ) (some (.int r)) (w_X9_keyLine o cB cI cJ cZ s_o) (w_X9_keyLine o cB cI cJ cZ s_o) s.heap.size) args s 0 0 A) (w_X9_keyLine o cB cI cJ cZ s_o) [(0, .ref (o 0)), (1, .int v1), (2, .int v2), (3, .int v3)] 39 [] := by
    intro K8 k8 v1 v2 v3 hf
    rw [F_X9_keyLine_b39] at hf
    refine g_inc cx (L2 := fun v3_1 => [(3, .int v3_1), (0, .ref (o 0)), (1, .int v1), (2, .int v2)]) 3 hf dX9_keyLine_39 rfl (k_inc1 _) (Nat.le_of_ble_eq_true rfl) (fun _ => rfl) (fun v3_1 hf => ?_)
    refine g_goto (tgt := 8) cx dX9_keyLine_42 rfl ?_
    refine g_sub [1, 2, 3, 0] rfl ?_
    exact k8 _ _ _ hf
  have h8 : ∀ (n : Nat) (v1 : Int32) (v2 : Int32) (v3 : Int32), F_X9_keyLine_b8 s_o n v1 v2 v3 = some r → gW p l e rm_X9_keyLine s m args below meth c D A 5 (MQ below (QM D (tyL cB cI cJ cZ) (some (.int r)) (w_X9_keyLine o cB cI cJ cZ s_o) (w_X9_keyLine o cB cI cJ cZ s_o) s.heap.size) args s 0 0 A) (w_X9_keyLine o cB cI cJ cZ s_o) [(0, .ref (o 0)), (1, .int v1), (2, .int v2), (3, .int v3)] 8 [] := by
    intro n
    induction n with
    | zero => intro v1 v2 v3 hf; rw [F_X9_keyLine_b8] at hf; cases hf
    | succ n ih =>
      intro v1 v2 v3 hf
      rw [F_X9_keyLine_b8] at hf
      refine g_iln cx 3 dX9_keyLine_8 rfl ?_
      refine g_aln cx 0 dX9_keyLine_9 rfl ?_
      refine fg_RX9_27 cx 0 rfl rfl dX9_keyLine_10 ?_
      refine g_ic_ge (tgt := 45) cx hf dX9_keyLine_13 rfl (fun hf => ?_) (fun hf => ?_)
      · refine g_iln cx 1 dX9_keyLine_45 rfl ?_
        exact g_iret (ovf := fun (r : Int32) => (some (.int r))) (wf := fun (r : Int32) => (w_X9_keyLine o cB cI cJ cZ s_o)) cx hA hr hf rfl rfl dX9_keyLine_46
      · refine g_aln cx 0 dX9_keyLine_16 rfl ?_
        refine g_ic cx dX9_keyLine_17 k_ic1 ?_
        refine g_iln cx 3 dX9_keyLine_18 rfl ?_
        refine g_ishl cx dX9_keyLine_19 ?_
        refine ob hf (fun q_2 hq_2 hf => ?_)
        refine g_callViR cx lk_RX9_98 (c_X9_left l D cB cI cJ cZ o s_o (1 <<< (v3 &&& 31)) q_2 hq_2) rfl [0, 1, 2, 3] rfl rfl (ci := 7) (q1 := 0) rfl rfl rfl (Nat.le_of_ble_eq_true rfl) ⟨rfl, rfl, Nat.le_of_ble_eq_true rfl, Nat.le_of_ble_eq_true rfl⟩ dX9_keyLine_20 ?_
        refine ob hf (fun q_3 hq_3 hf => ?_)
        refine g_callSiR cx lk_RX9_101 (c_J6_bitCount_0f7a4 l D cB cI cJ cZ q_2 q_3 hq_3) rfl [] rfl rfl rfl (Nat.le_of_ble_eq_true rfl) ⟨rfl, rfl, Nat.le_of_ble_eq_true rfl, Nat.le_of_ble_eq_true rfl⟩ dX9_keyLine_23 ?_
        refine g_is cx (L2 := fun v4_4 => [(4, .int v4_4), (0, .ref (o 0)), (1, .int v1), (2, .int v2), (3, .int v3)]) hf dX9_keyLine_26 (Nat.le_of_ble_eq_true rfl) (fun _ => rfl) (fun v4_4 hf => ?_)
        refine g_il cx 0 dX9_keyLine_28 rfl ?_
        refine g_iln cx 3 dX9_keyLine_30 rfl ?_
        refine g_ic_ge (tgt := 39) cx hf dX9_keyLine_31 rfl (fun hf => ?_) (fun hf => ?_)
        · refine g_sub [1, 2, 3, 4] rfl ?_
          exact h39 _ ih _ _ _ hf
        · refine g_il cx 0 dX9_keyLine_34 rfl ?_
          refine g_isn cx (L2 := fun v2_5 => [(2, .int v2_5), (4, .int v4_4), (0, .ref (o 0)), (1, .int v1), (3, .int v3)]) hf dX9_keyLine_36 (Nat.le_of_ble_eq_true rfl) (fun _ => rfl) (fun v2_5 hf => ?_)
          refine g_iln cx 4 dX9_keyLine_37 rfl ?_
          refine g_isn cx (L2 := fun v1_6 => [(1, .int v1_6), (2, .int v2_5), (4, .int v4_4), (0, .ref (o 0)), (3, .int v3)]) hf dX9_keyLine_38 (Nat.le_of_ble_eq_true rfl) (fun _ => rfl) (fun v1_6 hf => ?_)
          refine g_sub [3, 0, 1, 4] rfl ?_
          exact h39 _ ih _ _ _ hf
  rw [F_X9_keyLine] at hf
  refine g_bp cx dX9_keyLine_0 k_bpm9 ?_
  refine g_isn cx (L2 := fun v1_7 => [(1, .int v1_7), (0, .ref (o 0))]) hf dX9_keyLine_2 (Nat.le_of_ble_eq_true rfl) (fun _ => rfl) (fun v1_7 hf => ?_)
  refine g_bp cx dX9_keyLine_3 k_bp9 ?_
  refine g_isn cx (L2 := fun v2_8 => [(2, .int v2_8), (1, .int v1_7), (0, .ref (o 0))]) hf dX9_keyLine_5 (Nat.le_of_ble_eq_true rfl) (fun _ => rfl) (fun v2_8 hf => ?_)
  refine g_ic cx dX9_keyLine_6 k_ic0 ?_
  refine g_isn cx (L2 := fun v3_9 => [(3, .int v3_9), (2, .int v2_8), (1, .int v1_7), (0, .ref (o 0))]) hf dX9_keyLine_7 (Nat.le_of_ble_eq_true rfl) (fun _ => rfl) (fun v3_9 hf => ?_)
  refine g_sub [3, 2, 1, 0] rfl ?_
  exact h8 fu _ _ _ hf
end
section
theorem dX3_mayBecome_0 : decode cX3_mayBecome 0 = .ok (.aload_n 0, 1) := by decide +kernel
theorem dX3_mayBecome_1 : decode cX3_mayBecome 1 = .ok (.getfield 48, 3) := by decide +kernel
theorem dX3_mayBecome_4 : decode cX3_mayBecome 4 = .ok (.iload_n 3, 1) := by decide +kernel
theorem dX3_mayBecome_5 : decode cX3_mayBecome 5 = .ok (.invokevirtual 90, 3) := by decide +kernel
theorem dX3_mayBecome_8 : decode cX3_mayBecome 8 = .ok (.aload_n 0, 1) := by decide +kernel
theorem dX3_mayBecome_9 : decode cX3_mayBecome 9 = .ok (.getfield 48, 3) := by decide +kernel
theorem dX3_mayBecome_12 : decode cX3_mayBecome 12 = .ok (.aload_n 0, 1) := by decide +kernel
theorem dX3_mayBecome_13 : decode cX3_mayBecome 13 = .ok (.getfield 18, 3) := by decide +kernel
theorem dX3_mayBecome_16 : decode cX3_mayBecome 16 = .ok (.iload_n 2, 1) := by decide +kernel
theorem dX3_mayBecome_17 : decode cX3_mayBecome 17 = .ok (.invokevirtual 66, 3) := by decide +kernel
theorem dX3_mayBecome_20 : decode cX3_mayBecome 20 = .ok (.invokevirtual 90, 3) := by decide +kernel
theorem dX3_mayBecome_23 : decode cX3_mayBecome 23 = .ok (.if_icmp .ne 32, 3) := by decide +kernel
theorem dX3_mayBecome_26 : decode cX3_mayBecome 26 = .ok (.aload_n 0, 1) := by decide +kernel
theorem dX3_mayBecome_27 : decode cX3_mayBecome 27 = .ok (.aload_n 0, 1) := by decide +kernel
theorem dX3_mayBecome_28 : decode cX3_mayBecome 28 = .ok (.getfield 30, 3) := by decide +kernel
theorem dX3_mayBecome_31 : decode cX3_mayBecome 31 = .ok (.iload_n 1, 1) := by decide +kernel
theorem dX3_mayBecome_32 : decode cX3_mayBecome 32 = .ok (.iload_n 2, 1) := by decide +kernel
theorem dX3_mayBecome_33 : decode cX3_mayBecome 33 = .ok (.invokevirtual 93, 3) := by decide +kernel
theorem dX3_mayBecome_36 : decode cX3_mayBecome 36 = .ok (.iload_n 3, 1) := by decide +kernel
theorem dX3_mayBecome_37 : decode cX3_mayBecome 37 = .ok (.aload_n 0, 1) := by decide +kernel
theorem dX3_mayBecome_38 : decode cX3_mayBecome 38 = .ok (.getfield 18, 3) := by decide +kernel
theorem dX3_mayBecome_41 : decode cX3_mayBecome 41 = .ok (.iload_n 2, 1) := by decide +kernel
theorem dX3_mayBecome_42 : decode cX3_mayBecome 42 = .ok (.invokevirtual 96, 3) := by decide +kernel
theorem dX3_mayBecome_45 : decode cX3_mayBecome 45 = .ok (.invokevirtual 99, 3) := by decide +kernel
theorem dX3_mayBecome_48 : decode cX3_mayBecome 48 = .ok (.ifCond .eq 7, 3) := by decide +kernel
theorem dX3_mayBecome_51 : decode cX3_mayBecome 51 = .ok (.iconst 1, 1) := by decide +kernel
theorem dX3_mayBecome_52 : decode cX3_mayBecome 52 = .ok (.goto 4, 3) := by decide +kernel
theorem dX3_mayBecome_55 : decode cX3_mayBecome 55 = .ok (.iconst 0, 1) := by decide +kernel
theorem dX3_mayBecome_56 : decode cX3_mayBecome 56 = .ok (.ireturn, 1) := by decide +kernel
theorem q1_198 : Cond.fieldLink RX3 48 "RhymeLaw$Tale" "words" "LRhymeLaw$Words;" ∈ TT := tq1 198 rfl rfl
theorem q1_205 : Cond.fieldLink RX3 30 "RhymeLaw$Tale" "forms" "LRhymeLaw$Forms;" ∈ TT := tq1 205 rfl rfl
theorem q1_212 : Cond.fieldLink RX3 18 "RhymeLaw$Tale" "paper" "LRhymeLaw$Paper;" ∈ TT := tq1 212 rfl rfl
theorem q3_37 : Cond.instanceMethod yX10_meaning ∈ TT := tq3 37 rfl rfl
theorem q3_38 : Cond.selects RX10 yX10_meaning yX10_meaning ∈ TT := tq3 38 rfl rfl
theorem q3_39 : Cond.code yX10_meaning cX10_meaning 2 (some .int) ∈ TT := tq3 39 rfl rfl
theorem q4_11 : Cond.methodLink RX3 90 yX10_meaning ∈ TT := tq4 11 rfl rfl
theorem q4_12 : Cond.methodLink RX3 66 yX4_wordAt ∈ TT := tq4 12 rfl rfl
theorem q4_13 : Cond.methodLink RX3 93 yX1_letter ∈ TT := tq4 13 rfl rfl
theorem q4_14 : Cond.methodLink RX3 96 yX4_beforeAt ∈ TT := tq4 14 rfl rfl
theorem q4_15 : Cond.methodLink RX3 99 yX7_fits ∈ TT := tq4 15 rfl rfl
theorem fg_RX3_48 {p : Program} {l : Launch} {e : Env} {R : Room} {s : State} {m : MethodId} {args : Array Value} {below : List Frame} {meth : Method} {c : Code} {D : va_G} {tys : List (ClassId × FieldType)} {A : Nat → Prop} {nL : Nat} {Q : State → Prop} {cc : ByteArray} {ws : va_W} {L : List (Nat × Value)} {pc : Nat} {stk : List Value} (cx : gX p s m args meth c cc nL RX3 D tys A) {a : Nat} {fs : List Value} {v : Value} (q0 : Nat) (he : ws[q0]? = some (a, .inr (5, fs))) (hv : fs[0]? = some v) (hd : decode cc pc = .ok (.getfield 48, 3)) (kk : gW p l e R s m args below meth c D A nL Q ws L (pc + 3) (v :: stk)) : gW p l e R s m args below meth c D A nL Q ws L pc (.ref a :: stk) :=
  g_get cx (C := RX7) (T := TX7) (N := 5) inT7 rfl 0 (Nat.le_of_ble_eq_true rfl) q1_198 rfl q0 he hv hd kk
theorem lk_RX3_90 : vlk RX3 90 yX10_meaning cX10_meaning 2 (some .int) 1 := ⟨List.forall_mem_cons.mpr ⟨q4_11, List.forall_mem_cons.mpr ⟨q3_37, List.forall_mem_cons.mpr ⟨q3_38, List.forall_mem_cons.mpr ⟨q1_10, fun _ h => absurd h List.not_mem_nil⟩⟩⟩⟩, q3_39, by decide, by decide, by decide +kernel⟩
theorem fg_RX3_18 {p : Program} {l : Launch} {e : Env} {R : Room} {s : State} {m : MethodId} {args : Array Value} {below : List Frame} {meth : Method} {c : Code} {D : va_G} {tys : List (ClassId × FieldType)} {A : Nat → Prop} {nL : Nat} {Q : State → Prop} {cc : ByteArray} {ws : va_W} {L : List (Nat × Value)} {pc : Nat} {stk : List Value} (cx : gX p s m args meth c cc nL RX3 D tys A) {a : Nat} {fs : List Value} {v : Value} (q0 : Nat) (he : ws[q0]? = some (a, .inr (5, fs))) (hv : fs[2]? = some v) (hd : decode cc pc = .ok (.getfield 18, 3)) (kk : gW p l e R s m args below meth c D A nL Q ws L (pc + 3) (v :: stk)) : gW p l e R s m args below meth c D A nL Q ws L pc (.ref a :: stk) :=
  g_get cx (C := RX7) (T := TX7) (N := 5) inT7 rfl 2 (Nat.le_of_ble_eq_true rfl) q1_212 rfl q0 he hv hd kk
theorem lk_RX3_66 : vlk RX3 66 yX4_wordAt cX4_wordAt 2 (some .int) 1 := ⟨List.forall_mem_cons.mpr ⟨q4_12, List.forall_mem_cons.mpr ⟨q3_0, List.forall_mem_cons.mpr ⟨q3_1, List.forall_mem_cons.mpr ⟨q1_4, fun _ h => absurd h List.not_mem_nil⟩⟩⟩⟩, q3_2, by decide, by decide, by decide +kernel⟩
theorem fg_RX3_30 {p : Program} {l : Launch} {e : Env} {R : Room} {s : State} {m : MethodId} {args : Array Value} {below : List Frame} {meth : Method} {c : Code} {D : va_G} {tys : List (ClassId × FieldType)} {A : Nat → Prop} {nL : Nat} {Q : State → Prop} {cc : ByteArray} {ws : va_W} {L : List (Nat × Value)} {pc : Nat} {stk : List Value} (cx : gX p s m args meth c cc nL RX3 D tys A) {a : Nat} {fs : List Value} {v : Value} (q0 : Nat) (he : ws[q0]? = some (a, .inr (5, fs))) (hv : fs[1]? = some v) (hd : decode cc pc = .ok (.getfield 30, 3)) (kk : gW p l e R s m args below meth c D A nL Q ws L (pc + 3) (v :: stk)) : gW p l e R s m args below meth c D A nL Q ws L pc (.ref a :: stk) :=
  g_get cx (C := RX7) (T := TX7) (N := 5) inT7 rfl 1 (Nat.le_of_ble_eq_true rfl) q1_205 rfl q0 he hv hd kk
theorem lk_RX3_93 : vlk RX3 93 yX1_letter cX1_letter 4 (some .int) 2 := ⟨List.forall_mem_cons.mpr ⟨q4_13, List.forall_mem_cons.mpr ⟨q3_53, List.forall_mem_cons.mpr ⟨q3_54, List.forall_mem_cons.mpr ⟨q1_11, fun _ h => absurd h List.not_mem_nil⟩⟩⟩⟩, q3_55, by decide, by decide, by decide +kernel⟩
theorem lk_RX3_96 : vlk RX3 96 yX4_beforeAt cX4_beforeAt 2 (some .int) 1 := ⟨List.forall_mem_cons.mpr ⟨q4_14, List.forall_mem_cons.mpr ⟨q3_9, List.forall_mem_cons.mpr ⟨q3_10, List.forall_mem_cons.mpr ⟨q1_4, fun _ h => absurd h List.not_mem_nil⟩⟩⟩⟩, q3_11, by decide, by decide, by decide +kernel⟩
theorem lk_RX3_99 : vlk RX3 99 yX7_fits cX7_fits 5 (some .boolean) 3 := ⟨List.forall_mem_cons.mpr ⟨q4_15, List.forall_mem_cons.mpr ⟨q3_130, List.forall_mem_cons.mpr ⟨q3_131, List.forall_mem_cons.mpr ⟨q1_9, fun _ h => absurd h List.not_mem_nil⟩⟩⟩⟩, q3_132, by decide, by decide, by decide +kernel⟩
def F_X3_mayBecome (s_a0 : S7) (s_a0_forms : S1) (s_a0_paper : S4) (s_a0_words : S10) (x1 : Int32) (x2 : Int32) (x3 : Int32) : Option (Int32) := (F_X10_meaning s_a0_words x3).bind fun q_1 => (F_X4_wordAt s_a0_paper x2).bind fun q_2 => (F_X10_meaning s_a0_words q_2).bind fun q_3 => (if q_1 = q_3 then (F_X1_letter s_a0_forms x1 x2).bind fun q_4 => (F_X4_beforeAt s_a0_paper x2).bind fun q_5 => (F_X7_fits s_a0 s_a0_words q_4 x3 q_5).bind fun q_6 => (if q_6 = 0 then some (0) else some (1)) else some (0))
def w_X3_mayBecome (a0 a0_forms a0_paper a0_words a0_stock : Nat → Nat) (cB cI cJ cZ : ClassId) (s_a0 : S7) (s_a0_forms : S1) (s_a0_paper : S4) (s_a0_words : S10) : va_W := [(a0 0, .inr (5, [.ref (a0_words 0), .ref (a0_forms 0), .ref (a0_paper 0), .ref (a0_stock 0), .ref (a0 1)])), (a0 1, .inl (cI, 8, .inl (s7_metres s_a0))), (a0_forms 0, .inr (1, [.ref (a0_forms 1), .ref (a0_forms 2), .int (s1_size s_a0_forms)])), (a0_forms 1, .inl (cI, 16, .inl (s1_letters s_a0_forms))), (a0_forms 2, .inl (cI, 2, .inl (s1_lengths s_a0_forms))), (a0_paper 0, .inr (4, [.ref (a0_paper 1), .ref (a0_paper 2), .ref (a0_paper 3), .int (s4_most s_a0_paper), .int (s4_size s_a0_paper)])), (a0_paper 1, .inl (cI, 8, .inl (s4_words s_a0_paper))), (a0_paper 2, .inl (cI, 8, .inl (s4_things s_a0_paper))), (a0_paper 3, .inl (cI, 8, .inl (s4_befores s_a0_paper))), (a0_words 0, .inr (8, [.ref (a0_words 1), .ref (a0_words 2), .ref (a0_words 3), .int (s10_size s_a0_words)])), (a0_words 1, .inl (cI, 48, .inl (s10_sounds s_a0_words))), (a0_words 2, .inl (cI, 16, .inl (s10_meanings s_a0_words))), (a0_words 3, .inl (cI, 16, .inl (s10_syllables s_a0_words)))]
abbrev rm_X3_mayBecome : Room := { frames := 3, cells := 0, slots := 0, locals := 66 }
set_option maxHeartbeats 4000000 in
set_option maxRecDepth 100000 in
theorem c_X3_mayBecome (l : Launch) (D : va_G) (cB cI cJ cZ : ClassId) (a0 a0_forms a0_paper a0_words a0_stock : Nat → Nat) (s_a0 : S7) (s_a0_forms : S1) (s_a0_paper : S4) (s_a0_words : S10) (x1 : Int32) (x2 : Int32) (x3 : Int32) (r : Int32) (hf : F_X3_mayBecome s_a0 s_a0_forms s_a0_paper s_a0_words x1 x2 x3 = some r) : gM l D (tyL cB cI cJ cZ) yX3_mayBecome cX3_mayBecome 4 (some .boolean) rm_X3_mayBecome [.ref (a0 0), .int x1, .int x2, .int x3] (w_X3_mayBecome a0 a0_forms a0_paper a0_words a0_stock cB cI cJ cZ s_a0 s_a0_forms s_a0_paper s_a0_words) (some (.int r)) (w_X3_mayBecome a0 a0_forms a0_paper a0_words a0_stock cB cI cJ cZ s_a0 s_a0_forms s_a0_paper s_a0_words) := by
  refine met_of (by decide) (Nat.le_of_ble_eq_true rfl) ?_
  intro p e s m args below meth c A cx hr hA
  show gW p l e rm_X3_mayBecome s m args below meth c D A 4 _ _ [(0, .ref (a0 0)), (1, .int x1), (2, .int x2), (3, .int x3)] 0 []
  rw [F_X3_mayBecome] at hf
  refine g_aln cx 0 dX3_mayBecome_0 rfl ?_
  refine fg_RX3_48 cx 0 rfl rfl dX3_mayBecome_1 ?_
  refine g_iln cx 3 dX3_mayBecome_4 rfl ?_
  refine ob hf (fun q_1 hq_1 hf => ?_)
  refine g_callViR cx lk_RX3_90 (c_X10_meaning l D cB cI cJ cZ a0_words s_a0_words x3 q_1 hq_1) rfl [9, 10, 11, 12] rfl rfl (ci := 8) (q1 := 0) rfl rfl rfl (Nat.le_of_ble_eq_true rfl) ⟨rfl, rfl, Nat.le_of_ble_eq_true rfl, Nat.le_of_ble_eq_true rfl⟩ dX3_mayBecome_5 ?_
  refine g_aln cx 0 dX3_mayBecome_8 rfl ?_
  refine fg_RX3_48 cx 0 rfl rfl dX3_mayBecome_9 ?_
  refine g_aln cx 0 dX3_mayBecome_12 rfl ?_
  refine fg_RX3_18 cx 0 rfl rfl dX3_mayBecome_13 ?_
  refine g_iln cx 2 dX3_mayBecome_16 rfl ?_
  refine ob hf (fun q_2 hq_2 hf => ?_)
  refine g_callViR cx lk_RX3_66 (c_X4_wordAt l D cB cI cJ cZ a0_paper s_a0_paper x2 q_2 hq_2) rfl [5, 6, 7, 8] rfl rfl (ci := 4) (q1 := 0) rfl rfl rfl (Nat.le_of_ble_eq_true rfl) ⟨rfl, rfl, Nat.le_of_ble_eq_true rfl, Nat.le_of_ble_eq_true rfl⟩ dX3_mayBecome_17 ?_
  refine ob hf (fun q_3 hq_3 hf => ?_)
  refine g_callViR cx lk_RX3_90 (c_X10_meaning l D cB cI cJ cZ a0_words s_a0_words q_2 q_3 hq_3) rfl [9, 10, 11, 12] rfl rfl (ci := 8) (q1 := 0) rfl rfl rfl (Nat.le_of_ble_eq_true rfl) ⟨rfl, rfl, Nat.le_of_ble_eq_true rfl, Nat.le_of_ble_eq_true rfl⟩ dX3_mayBecome_20 ?_
  refine g_ic_ne (tgt := 55) cx hf dX3_mayBecome_23 rfl (fun hf => ?_) (fun hf => ?_)
  · refine g_ic cx dX3_mayBecome_55 k_ic0 ?_
    exact g_zret (ovf := fun (r : Int32) => (some (.int r))) (wf := fun (r : Int32) => (w_X3_mayBecome a0 a0_forms a0_paper a0_words a0_stock cB cI cJ cZ s_a0 s_a0_forms s_a0_paper s_a0_words)) cx hA hr rfl hf rfl rfl dX3_mayBecome_56
  · refine g_aln cx 0 dX3_mayBecome_26 rfl ?_
    refine g_aln cx 0 dX3_mayBecome_27 rfl ?_
    refine fg_RX3_30 cx 0 rfl rfl dX3_mayBecome_28 ?_
    refine g_iln cx 1 dX3_mayBecome_31 rfl ?_
    refine g_iln cx 2 dX3_mayBecome_32 rfl ?_
    refine ob hf (fun q_4 hq_4 hf => ?_)
    refine g_callViR cx lk_RX3_93 (c_X1_letter l D cB cI cJ cZ a0_forms s_a0_forms x1 x2 q_4 hq_4) rfl [2, 3, 4] rfl rfl (ci := 1) (q1 := 0) rfl rfl rfl (Nat.le_of_ble_eq_true rfl) ⟨rfl, rfl, Nat.le_of_ble_eq_true rfl, Nat.le_of_ble_eq_true rfl⟩ dX3_mayBecome_33 ?_
    refine g_iln cx 3 dX3_mayBecome_36 rfl ?_
    refine g_aln cx 0 dX3_mayBecome_37 rfl ?_
    refine fg_RX3_18 cx 0 rfl rfl dX3_mayBecome_38 ?_
    refine g_iln cx 2 dX3_mayBecome_41 rfl ?_
    refine ob hf (fun q_5 hq_5 hf => ?_)
    refine g_callViR cx lk_RX3_96 (c_X4_beforeAt l D cB cI cJ cZ a0_paper s_a0_paper x2 q_5 hq_5) rfl [5, 6, 7, 8] rfl rfl (ci := 4) (q1 := 0) rfl rfl rfl (Nat.le_of_ble_eq_true rfl) ⟨rfl, rfl, Nat.le_of_ble_eq_true rfl, Nat.le_of_ble_eq_true rfl⟩ dX3_mayBecome_42 ?_
    refine ob hf (fun q_6 hq_6 hf => ?_)
    refine g_callViR cx lk_RX3_99 (c_X7_fits l D cB cI cJ cZ a0 a0_words a0_forms a0_paper a0_stock s_a0 s_a0_words q_4 x3 q_5 q_6 hq_6) rfl [0, 1, 9, 10, 11, 12] rfl rfl (ci := 5) (q1 := 0) rfl rfl rfl (Nat.le_of_ble_eq_true rfl) ⟨rfl, rfl, Nat.le_of_ble_eq_true rfl, Nat.le_of_ble_eq_true rfl⟩ dX3_mayBecome_45 ?_
    refine g_if_eq (tgt := 55) cx hf dX3_mayBecome_48 rfl (fun hf => ?_) (fun hf => ?_)
    · refine g_ic cx dX3_mayBecome_55 k_ic0 ?_
      exact g_zret (ovf := fun (r : Int32) => (some (.int r))) (wf := fun (r : Int32) => (w_X3_mayBecome a0 a0_forms a0_paper a0_words a0_stock cB cI cJ cZ s_a0 s_a0_forms s_a0_paper s_a0_words)) cx hA hr rfl hf rfl rfl dX3_mayBecome_56
    · refine g_ic cx dX3_mayBecome_51 k_ic1 ?_
      refine g_goto (tgt := 56) cx dX3_mayBecome_52 rfl ?_
      exact g_zret (ovf := fun (r : Int32) => (some (.int r))) (wf := fun (r : Int32) => (w_X3_mayBecome a0 a0_forms a0_paper a0_words a0_stock cB cI cJ cZ s_a0 s_a0_forms s_a0_paper s_a0_words)) cx hA hr rfl hf rfl rfl dX3_mayBecome_56
theorem dX3_costAt_0 : decode cX3_costAt 0 = .ok (.aload_n 0, 1) := by decide +kernel
theorem dX3_costAt_1 : decode cX3_costAt 1 = .ok (.getfield 9, 3) := by decide +kernel
theorem dX3_costAt_4 : decode cX3_costAt 4 = .ok (.iload_n 1, 1) := by decide +kernel
theorem dX3_costAt_5 : decode cX3_costAt 5 = .ok (.bipush 16, 2) := by decide +kernel
theorem dX3_costAt_7 : decode cX3_costAt 7 = .ok (.imul, 1) := by decide +kernel
theorem dX3_costAt_8 : decode cX3_costAt 8 = .ok (.iload_n 2, 1) := by decide +kernel
theorem dX3_costAt_9 : decode cX3_costAt 9 = .ok (.iadd, 1) := by decide +kernel
theorem dX3_costAt_10 : decode cX3_costAt 10 = .ok (.invokestatic 67, 3) := by decide +kernel
theorem dX3_costAt_13 : decode cX3_costAt 13 = .ok (.ireturn, 1) := by decide +kernel
theorem q1_106 : Cond.fieldLink RX3 9 "RhymeLaw$Mending" "costs" "[I" ∈ TT := tq1 106 rfl rfl
theorem q4_24 : Cond.methodLink RX3 67 yX6_at ∈ TT := tq4 24 rfl rfl
theorem fg_RX3_9 {p : Program} {l : Launch} {e : Env} {R : Room} {s : State} {m : MethodId} {args : Array Value} {below : List Frame} {meth : Method} {c : Code} {D : va_G} {tys : List (ClassId × FieldType)} {A : Nat → Prop} {nL : Nat} {Q : State → Prop} {cc : ByteArray} {ws : va_W} {L : List (Nat × Value)} {pc : Nat} {stk : List Value} (cx : gX p s m args meth c cc nL RX3 D tys A) {a : Nat} {fs : List Value} {v : Value} (q0 : Nat) (he : ws[q0]? = some (a, .inr (3, fs))) (hv : fs[0]? = some v) (hd : decode cc pc = .ok (.getfield 9, 3)) (kk : gW p l e R s m args below meth c D A nL Q ws L (pc + 3) (v :: stk)) : gW p l e R s m args below meth c D A nL Q ws L pc (.ref a :: stk) :=
  g_get cx (C := RX3) (T := TX3) (N := 2) inT3 rfl 0 (Nat.le_of_ble_eq_true rfl) q1_106 rfl q0 he hv hd kk
theorem lk_RX3_67 : slk RX3 67 yX6_at cX6_at 2 (some .int) 2 := ⟨List.forall_mem_cons.mpr ⟨q4_24, List.forall_mem_cons.mpr ⟨q2_207, List.forall_mem_cons.mpr ⟨q1_19, fun _ h => absurd h List.not_mem_nil⟩⟩⟩, q2_208, by decide, by decide, by decide +kernel⟩
def F_X3_costAt (s_o : S3) (x1 : Int32) (x2 : Int32) : Option (Int32) := (F_X6_at 128 (s3_costs s_o) ((x1 * 16) + x2)).bind fun q_1 => some (q_1)
def w_X3_costAt (o : Nat → Nat) (cB cI cJ cZ : ClassId) (s_o : S3) : va_W := [(o 0, .inr (3, [.ref (o 1), .ref (o 2)])), (o 1, .inl (cI, 128, .inl (s3_costs s_o))), (o 2, .inl (cI, 8, .inl (s3_row s_o)))]
abbrev rm_X3_costAt : Room := { frames := 1, cells := 0, slots := 0, locals := 21 }
set_option maxHeartbeats 4000000 in
set_option maxRecDepth 100000 in
theorem c_X3_costAt (l : Launch) (D : va_G) (cB cI cJ cZ : ClassId) (o : Nat → Nat) (s_o : S3) (x1 : Int32) (x2 : Int32) (r : Int32) (hf : F_X3_costAt s_o x1 x2 = some r) : gM l D (tyL cB cI cJ cZ) yX3_costAt cX3_costAt 3 (some .int) rm_X3_costAt [.ref (o 0), .int x1, .int x2] (w_X3_costAt o cB cI cJ cZ s_o) (some (.int r)) (w_X3_costAt o cB cI cJ cZ s_o) := by
  refine met_of (by decide) (Nat.le_of_ble_eq_true rfl) ?_
  intro p e s m args below meth c A cx hr hA
  show gW p l e rm_X3_costAt s m args below meth c D A 3 _ _ [(0, .ref (o 0)), (1, .int x1), (2, .int x2)] 0 []
  rw [F_X3_costAt] at hf
  refine g_aln cx 0 dX3_costAt_0 rfl ?_
  refine fg_RX3_9 cx 0 rfl rfl dX3_costAt_1 ?_
  refine g_iln cx 1 dX3_costAt_4 rfl ?_
  refine g_bp cx dX3_costAt_5 k_bp16 ?_
  refine g_imul cx dX3_costAt_7 ?_
  refine g_iln cx 2 dX3_costAt_8 rfl ?_
  refine g_iadd cx dX3_costAt_9 ?_
  refine ob hf (fun q_1 hq_1 hf => ?_)
  refine g_callSiR cx lk_RX3_67 (c_X6_at l D cB cI cJ cZ (o 1) 128 (s3_costs s_o) ((x1 * 16) + x2) q_1 hq_1) rfl [1] rfl rfl rfl (Nat.le_of_ble_eq_true rfl) ⟨rfl, rfl, Nat.le_of_ble_eq_true rfl, Nat.le_of_ble_eq_true rfl⟩ dX3_costAt_10 ?_
  exact g_iret (ovf := fun (r : Int32) => (some (.int r))) (wf := fun (r : Int32) => (w_X3_costAt o cB cI cJ cZ s_o)) cx hA hr hf rfl rfl dX3_costAt_13
theorem dX3_best_0 : decode cX3_best 0 = .ok (.iconst (-1), 1) := by decide +kernel
theorem dX3_best_1 : decode cX3_best 1 = .ok (.istore 5, 2) := by decide +kernel
theorem dX3_best_3 : decode cX3_best 3 = .ok (.sipush 1000, 3) := by decide +kernel
theorem dX3_best_6 : decode cX3_best 6 = .ok (.istore 6, 2) := by decide +kernel
theorem dX3_best_8 : decode cX3_best 8 = .ok (.iconst 0, 1) := by decide +kernel
theorem dX3_best_9 : decode cX3_best 9 = .ok (.istore 7, 2) := by decide +kernel
theorem dX3_best_11 : decode cX3_best 11 = .ok (.iload 7, 2) := by decide +kernel
theorem dX3_best_13 : decode cX3_best 13 = .ok (.aload_n 1, 1) := by decide +kernel
theorem dX3_best_14 : decode cX3_best 14 = .ok (.invokevirtual 75, 3) := by decide +kernel
theorem dX3_best_17 : decode cX3_best 17 = .ok (.if_icmp .ge 51, 3) := by decide +kernel
theorem dX3_best_20 : decode cX3_best 20 = .ok (.aload_n 0, 1) := by decide +kernel
theorem dX3_best_21 : decode cX3_best 21 = .ok (.iload_n 3, 1) := by decide +kernel
theorem dX3_best_22 : decode cX3_best 22 = .ok (.iload 7, 2) := by decide +kernel
theorem dX3_best_24 : decode cX3_best 24 = .ok (.invokevirtual 82, 3) := by decide +kernel
theorem dX3_best_27 : decode cX3_best 27 = .ok (.iload 6, 2) := by decide +kernel
theorem dX3_best_29 : decode cX3_best 29 = .ok (.if_icmp .ge 33, 3) := by decide +kernel
theorem dX3_best_32 : decode cX3_best 32 = .ok (.iload 4, 2) := by decide +kernel
theorem dX3_best_34 : decode cX3_best 34 = .ok (.ifCond .lt 15, 3) := by decide +kernel
theorem dX3_best_37 : decode cX3_best 37 = .ok (.aload_n 1, 1) := by decide +kernel
theorem dX3_best_38 : decode cX3_best 38 = .ok (.iload_n 2, 1) := by decide +kernel
theorem dX3_best_39 : decode cX3_best 39 = .ok (.iload 4, 2) := by decide +kernel
theorem dX3_best_41 : decode cX3_best 41 = .ok (.iload 7, 2) := by decide +kernel
theorem dX3_best_43 : decode cX3_best 43 = .ok (.invokevirtual 103, 3) := by decide +kernel
theorem dX3_best_46 : decode cX3_best 46 = .ok (.ifCond .eq 16, 3) := by decide +kernel
theorem dX3_best_49 : decode cX3_best 49 = .ok (.aload_n 0, 1) := by decide +kernel
theorem dX3_best_50 : decode cX3_best 50 = .ok (.iload_n 3, 1) := by decide +kernel
theorem dX3_best_51 : decode cX3_best 51 = .ok (.iload 7, 2) := by decide +kernel
theorem dX3_best_53 : decode cX3_best 53 = .ok (.invokevirtual 82, 3) := by decide +kernel
theorem dX3_best_56 : decode cX3_best 56 = .ok (.istore 6, 2) := by decide +kernel
theorem dX3_best_58 : decode cX3_best 58 = .ok (.iload 7, 2) := by decide +kernel
theorem dX3_best_60 : decode cX3_best 60 = .ok (.istore 5, 2) := by decide +kernel
theorem dX3_best_62 : decode cX3_best 62 = .ok (.iinc 7 1, 3) := by decide +kernel
theorem dX3_best_65 : decode cX3_best 65 = .ok (.goto (-54), 3) := by decide +kernel
theorem dX3_best_68 : decode cX3_best 68 = .ok (.iload 5, 2) := by decide +kernel
theorem dX3_best_70 : decode cX3_best 70 = .ok (.ireturn, 1) := by decide +kernel
theorem k_sp1000 : (Int16.ofInt (1000)).toInt32 = 1000 := by decide
theorem q0_9 : Cond.selects RX3 yX3_costAt yX3_costAt ∈ TT := tq0 9 rfl rfl
theorem q1_6 : Cond.initialized RX3 ∈ TT := tq1 6 rfl rfl
theorem q2_227 : Cond.instanceMethod yX10_size ∈ TT := tq2 227 rfl rfl
theorem q2_228 : Cond.selects RX10 yX10_size yX10_size ∈ TT := tq2 228 rfl rfl
theorem q2_229 : Cond.code yX10_size cX10_size 1 (some .int) ∈ TT := tq2 229 rfl rfl
theorem q4_7 : Cond.methodLink RX3 75 yX10_size ∈ TT := tq4 7 rfl rfl
theorem q4_20 : Cond.methodLink RX3 82 yX3_costAt ∈ TT := tq4 20 rfl rfl
theorem q4_22 : Cond.instanceMethod yX3_costAt ∈ TT := tq4 22 rfl rfl
theorem q4_23 : Cond.code yX3_costAt cX3_costAt 3 (some .int) ∈ TT := tq4 23 rfl rfl
theorem q4_25 : Cond.methodLink RX3 103 yX10_rhyme ∈ TT := tq4 25 rfl rfl
theorem lk_RX3_82 : vlk RX3 82 yX3_costAt cX3_costAt 3 (some .int) 2 := ⟨List.forall_mem_cons.mpr ⟨q4_20, List.forall_mem_cons.mpr ⟨q4_22, List.forall_mem_cons.mpr ⟨q0_9, List.forall_mem_cons.mpr ⟨q1_6, fun _ h => absurd h List.not_mem_nil⟩⟩⟩⟩, q4_23, by decide, by decide, by decide +kernel⟩
theorem lk_RX3_75 : vlk RX3 75 yX10_size cX10_size 1 (some .int) 0 := ⟨List.forall_mem_cons.mpr ⟨q4_7, List.forall_mem_cons.mpr ⟨q2_227, List.forall_mem_cons.mpr ⟨q2_228, List.forall_mem_cons.mpr ⟨q1_10, fun _ h => absurd h List.not_mem_nil⟩⟩⟩⟩, q2_229, by decide, by decide, by decide +kernel⟩
theorem lk_RX3_103 : vlk RX3 103 yX10_rhyme cX10_rhyme 4 (some .boolean) 3 := ⟨List.forall_mem_cons.mpr ⟨q4_25, List.forall_mem_cons.mpr ⟨q3_136, List.forall_mem_cons.mpr ⟨q3_137, List.forall_mem_cons.mpr ⟨q1_10, fun _ h => absurd h List.not_mem_nil⟩⟩⟩⟩, q3_138, by decide, by decide, by decide +kernel⟩
def F_X3_best_b62 (s_a1 : S10) (s_o : S3) (x2 : Int32) (x3 : Int32) (x4 : Int32) (K11 : Int32 → Int32 → Int32 → Option (Int32)) (v5 : Int32) (v6 : Int32) (v7 : Int32) : Option (Int32) := nm (v7 + 1) fun v7_1 => K11 v5 v6 v7_1
def F_X3_best_b49 (s_a1 : S10) (s_o : S3) (x2 : Int32) (x3 : Int32) (x4 : Int32) (K11 : Int32 → Int32 → Int32 → Option (Int32)) (v7 : Int32) : Option (Int32) := (F_X3_costAt s_o x3 v7).bind fun q_2 => nm q_2 fun v6_3 => nm v7 fun v5_4 => F_X3_best_b62 s_a1 s_o x2 x3 x4 K11 v5_4 v6_3 v7
def F_X3_best_b11 (s_a1 : S10) (s_o : S3) (x2 : Int32) (x3 : Int32) (x4 : Int32) : Nat → Int32 → Int32 → Int32 → Option (Int32)
  | 0, _, _, _ => none
  | n + 1, v5, v6, v7 => (F_X10_size s_a1).bind fun q_5 => (if q_5 ≤ v7 then some (v5) else (F_X3_costAt s_o x3 v7).bind fun q_6 => (if v6 ≤ q_6 then F_X3_best_b62 s_a1 s_o x2 x3 x4 (F_X3_best_b11 s_a1 s_o x2 x3 x4 n) v5 v6 v7 else (if x4 < 0 then F_X3_best_b49 s_a1 s_o x2 x3 x4 (F_X3_best_b11 s_a1 s_o x2 x3 x4 n) v7 else (F_X10_rhyme s_a1 x2 x4 v7).bind fun q_7 => (if q_7 = 0 then F_X3_best_b62 s_a1 s_o x2 x3 x4 (F_X3_best_b11 s_a1 s_o x2 x3 x4 n) v5 v6 v7 else F_X3_best_b49 s_a1 s_o x2 x3 x4 (F_X3_best_b11 s_a1 s_o x2 x3 x4 n) v7))))
def F_X3_best (s_a1 : S10) (s_o : S3) (x2 : Int32) (x3 : Int32) (x4 : Int32) : Option (Int32) := nm (-1) fun v5_8 => nm 1000 fun v6_9 => nm 0 fun v7_10 => F_X3_best_b11 s_a1 s_o x2 x3 x4 fu v5_8 v6_9 v7_10
def w_X3_best (a1 o : Nat → Nat) (cB cI cJ cZ : ClassId) (s_a1 : S10) (s_o : S3) : va_W := [(a1 0, .inr (8, [.ref (a1 1), .ref (a1 2), .ref (a1 3), .int (s10_size s_a1)])), (a1 1, .inl (cI, 48, .inl (s10_sounds s_a1))), (a1 2, .inl (cI, 16, .inl (s10_meanings s_a1))), (a1 3, .inl (cI, 16, .inl (s10_syllables s_a1))), (o 0, .inr (3, [.ref (o 1), .ref (o 2)])), (o 1, .inl (cI, 128, .inl (s3_costs s_o))), (o 2, .inl (cI, 8, .inl (s3_row s_o)))]
abbrev rm_X3_best : Room := { frames := 3, cells := 0, slots := 0, locals := 66 }
set_option maxHeartbeats 4000000 in
set_option maxRecDepth 100000 in
theorem c_X3_best (l : Launch) (D : va_G) (cB cI cJ cZ : ClassId) (a1 o : Nat → Nat) (s_a1 : S10) (s_o : S3) (x2 : Int32) (x3 : Int32) (x4 : Int32) (r : Int32) (hf : F_X3_best s_a1 s_o x2 x3 x4 = some r) : gM l D (tyL cB cI cJ cZ) yX3_best cX3_best 8 (some .int) rm_X3_best [.ref (o 0), .ref (a1 0), .int x2, .int x3, .int x4] (w_X3_best a1 o cB cI cJ cZ s_a1 s_o) (some (.int r)) (w_X3_best a1 o cB cI cJ cZ s_a1 s_o) := by
  refine met_of (by decide) (Nat.le_of_ble_eq_true rfl) ?_
  intro p e s m args below meth c A cx hr hA
  show gW p l e rm_X3_best s m args below meth c D A 8 _ _ [(0, .ref (o 0)), (1, .ref (a1 0)), (2, .int x2), (3, .int x3), (4, .int x4)] 0 []
  have h62 : ∀ (K11 : Int32 → Int32 → Int32 → Option (Int32)), (∀ (v5 : Int32) (v6 : Int32) (v7 : Int32), K11 v5 v6 v7 = some r → gW p l e rm_X3_best s m args below meth c D A 8 (MQ below (QM D (tyL cB cI cJ cZ) (some (.int r)) (w_X3_best a1 o cB cI cJ cZ s_a1 s_o) (w_X3_best a1 o cB cI cJ cZ s_a1 s_o) s.heap.size) args s 0 0 A) (w_X3_best a1 o cB cI cJ cZ s_a1 s_o) [(0, .ref (o 0)), (1, .ref (a1 0)), (2, .int x2), (3, .int x3), (4, .int x4), (5, .int v5), (6, .int v6), (7, .int v7)] 11 []) → ∀ (v5 : Int32) (v6 : Int32) (v7 : Int32), F_X3_best_b62 s_a1 s_o x2 x3 x4 K11 v5 v6 v7 = some r → gW p l e rm_X3_best s m args below meth c D A 8 (MQ below (QM D (tyL cB cI cJ cZ) (some (.int r)) (w_X3_best a1 o cB cI cJ cZ s_a1 s_o) (w_X3_best a1 o cB cI cJ cZ s_a1 s_o) s.heap.size) args s 0 0 A) (w_X3_best a1 o cB cI cJ cZ s_a1 s_o) [(0, .ref (o 0)), (1, .ref (a1 0)), (2, .int x2), (3, .int x3), (4, .int x4), (5, .int v5), (6, .int v6), (7, .int v7)] 62 [] := by
    intro K11 k11 v5 v6 v7 hf
    rw [F_X3_best_b62] at hf
    refine g_inc cx (L2 := fun v7_1 => [(7, .int v7_1), (0, .ref (o 0)), (1, .ref (a1 0)), (2, .int x2), (3, .int x3), (4, .int x4), (5, .int v5), (6, .int v6)]) 7 hf dX3_best_62 rfl (k_inc1 _) (Nat.le_of_ble_eq_true rfl) (fun _ => rfl) (fun v7_1 hf => ?_)
    refine g_goto (tgt := 11) cx dX3_best_65 rfl ?_
    refine g_sub [1, 2, 3, 4, 5, 6, 7, 0] rfl ?_
    exact k11 _ _ _ hf
  have h49 : ∀ (K11 : Int32 → Int32 → Int32 → Option (Int32)), (∀ (v5 : Int32) (v6 : Int32) (v7 : Int32), K11 v5 v6 v7 = some r → gW p l e rm_X3_best s m args below meth c D A 8 (MQ below (QM D (tyL cB cI cJ cZ) (some (.int r)) (w_X3_best a1 o cB cI cJ cZ s_a1 s_o) (w_X3_best a1 o cB cI cJ cZ s_a1 s_o) s.heap.size) args s 0 0 A) (w_X3_best a1 o cB cI cJ cZ s_a1 s_o) [(0, .ref (o 0)), (1, .ref (a1 0)), (2, .int x2), (3, .int x3), (4, .int x4), (5, .int v5), (6, .int v6), (7, .int v7)] 11 []) → ∀ (v7 : Int32), F_X3_best_b49 s_a1 s_o x2 x3 x4 K11 v7 = some r → gW p l e rm_X3_best s m args below meth c D A 8 (MQ below (QM D (tyL cB cI cJ cZ) (some (.int r)) (w_X3_best a1 o cB cI cJ cZ s_a1 s_o) (w_X3_best a1 o cB cI cJ cZ s_a1 s_o) s.heap.size) args s 0 0 A) (w_X3_best a1 o cB cI cJ cZ s_a1 s_o) [(0, .ref (o 0)), (1, .ref (a1 0)), (2, .int x2), (3, .int x3), (4, .int x4), (7, .int v7)] 49 [] := by
    intro K11 k11 v7 hf
    rw [F_X3_best_b49] at hf
    refine g_aln cx 0 dX3_best_49 rfl ?_
    refine g_iln cx 3 dX3_best_50 rfl ?_
    refine g_il cx 5 dX3_best_51 rfl ?_
    refine ob hf (fun q_2 hq_2 hf => ?_)
    refine g_callViR cx lk_RX3_82 (c_X3_costAt l D cB cI cJ cZ o s_o x3 v7 q_2 hq_2) rfl [4, 5, 6] rfl rfl (ci := 3) (q1 := 0) rfl rfl rfl (Nat.le_of_ble_eq_true rfl) ⟨rfl, rfl, Nat.le_of_ble_eq_true rfl, Nat.le_of_ble_eq_true rfl⟩ dX3_best_53 ?_
    refine g_is cx (L2 := fun v6_3 => [(6, .int v6_3), (0, .ref (o 0)), (1, .ref (a1 0)), (2, .int x2), (3, .int x3), (4, .int x4), (7, .int v7)]) hf dX3_best_56 (Nat.le_of_ble_eq_true rfl) (fun _ => rfl) (fun v6_3 hf => ?_)
    refine g_il cx 6 dX3_best_58 rfl ?_
    refine g_is cx (L2 := fun v5_4 => [(5, .int v5_4), (6, .int v6_3), (0, .ref (o 0)), (1, .ref (a1 0)), (2, .int x2), (3, .int x3), (4, .int x4), (7, .int v7)]) hf dX3_best_60 (Nat.le_of_ble_eq_true rfl) (fun _ => rfl) (fun v5_4 hf => ?_)
    refine g_sub [2, 3, 4, 5, 6, 0, 1, 7] rfl ?_
    exact h62 _ k11 _ _ _ hf
  have h11 : ∀ (n : Nat) (v5 : Int32) (v6 : Int32) (v7 : Int32), F_X3_best_b11 s_a1 s_o x2 x3 x4 n v5 v6 v7 = some r → gW p l e rm_X3_best s m args below meth c D A 8 (MQ below (QM D (tyL cB cI cJ cZ) (some (.int r)) (w_X3_best a1 o cB cI cJ cZ s_a1 s_o) (w_X3_best a1 o cB cI cJ cZ s_a1 s_o) s.heap.size) args s 0 0 A) (w_X3_best a1 o cB cI cJ cZ s_a1 s_o) [(0, .ref (o 0)), (1, .ref (a1 0)), (2, .int x2), (3, .int x3), (4, .int x4), (5, .int v5), (6, .int v6), (7, .int v7)] 11 [] := by
    intro n
    induction n with
    | zero => intro v5 v6 v7 hf; rw [F_X3_best_b11] at hf; cases hf
    | succ n ih =>
      intro v5 v6 v7 hf
      rw [F_X3_best_b11] at hf
      refine g_il cx 7 dX3_best_11 rfl ?_
      refine g_aln cx 1 dX3_best_13 rfl ?_
      refine ob hf (fun q_5 hq_5 hf => ?_)
      refine g_callViR cx lk_RX3_75 (c_X10_size l D cB cI cJ cZ a1 s_a1 q_5 hq_5) rfl [0, 1, 2, 3] rfl rfl (ci := 8) (q1 := 0) rfl rfl rfl (Nat.le_of_ble_eq_true rfl) ⟨rfl, rfl, Nat.le_of_ble_eq_true rfl, Nat.le_of_ble_eq_true rfl⟩ dX3_best_14 ?_
      refine g_ic_ge (tgt := 68) cx hf dX3_best_17 rfl (fun hf => ?_) (fun hf => ?_)
      · refine g_il cx 5 dX3_best_68 rfl ?_
        exact g_iret (ovf := fun (r : Int32) => (some (.int r))) (wf := fun (r : Int32) => (w_X3_best a1 o cB cI cJ cZ s_a1 s_o)) cx hA hr hf rfl rfl dX3_best_70
      · refine g_aln cx 0 dX3_best_20 rfl ?_
        refine g_iln cx 3 dX3_best_21 rfl ?_
        refine g_il cx 7 dX3_best_22 rfl ?_
        refine ob hf (fun q_6 hq_6 hf => ?_)
        refine g_callViR cx lk_RX3_82 (c_X3_costAt l D cB cI cJ cZ o s_o x3 v7 q_6 hq_6) rfl [4, 5, 6] rfl rfl (ci := 3) (q1 := 0) rfl rfl rfl (Nat.le_of_ble_eq_true rfl) ⟨rfl, rfl, Nat.le_of_ble_eq_true rfl, Nat.le_of_ble_eq_true rfl⟩ dX3_best_24 ?_
        refine g_il cx 6 dX3_best_27 rfl ?_
        refine g_ic_ge (tgt := 62) cx hf dX3_best_29 rfl (fun hf => ?_) (fun hf => ?_)
        · exact h62 _ ih _ _ _ hf
        · refine g_il cx 4 dX3_best_32 rfl ?_
          refine g_if_lt (tgt := 49) cx hf dX3_best_34 rfl (fun hf => ?_) (fun hf => ?_)
          · refine g_sub [0, 1, 2, 3, 4, 7] rfl ?_
            exact h49 _ ih _ hf
          · refine g_aln cx 1 dX3_best_37 rfl ?_
            refine g_iln cx 2 dX3_best_38 rfl ?_
            refine g_il cx 4 dX3_best_39 rfl ?_
            refine g_il cx 7 dX3_best_41 rfl ?_
            refine ob hf (fun q_7 hq_7 hf => ?_)
            refine g_callViR cx lk_RX3_103 (c_X10_rhyme l D cB cI cJ cZ a1 s_a1 x2 x4 v7 q_7 hq_7) rfl [0, 1, 2, 3] rfl rfl (ci := 8) (q1 := 0) rfl rfl rfl (Nat.le_of_ble_eq_true rfl) ⟨rfl, rfl, Nat.le_of_ble_eq_true rfl, Nat.le_of_ble_eq_true rfl⟩ dX3_best_43 ?_
            refine g_if_eq (tgt := 62) cx hf dX3_best_46 rfl (fun hf => ?_) (fun hf => ?_)
            · exact h62 _ ih _ _ _ hf
            · refine g_sub [0, 1, 2, 3, 4, 7] rfl ?_
              exact h49 _ ih _ hf
  rw [F_X3_best] at hf
  refine g_ic cx dX3_best_0 k_icm1 ?_
  refine g_is cx (L2 := fun v5_8 => [(5, .int v5_8), (0, .ref (o 0)), (1, .ref (a1 0)), (2, .int x2), (3, .int x3), (4, .int x4)]) hf dX3_best_1 (Nat.le_of_ble_eq_true rfl) (fun _ => rfl) (fun v5_8 hf => ?_)
  refine g_sp cx dX3_best_3 k_sp1000 ?_
  refine g_is cx (L2 := fun v6_9 => [(6, .int v6_9), (5, .int v5_8), (0, .ref (o 0)), (1, .ref (a1 0)), (2, .int x2), (3, .int x3), (4, .int x4)]) hf dX3_best_6 (Nat.le_of_ble_eq_true rfl) (fun _ => rfl) (fun v6_9 hf => ?_)
  refine g_ic cx dX3_best_8 k_ic0 ?_
  refine g_is cx (L2 := fun v7_10 => [(7, .int v7_10), (6, .int v6_9), (5, .int v5_8), (0, .ref (o 0)), (1, .ref (a1 0)), (2, .int x2), (3, .int x3), (4, .int x4)]) hf dX3_best_9 (Nat.le_of_ble_eq_true rfl) (fun _ => rfl) (fun v7_10 hf => ?_)
  refine g_sub [3, 4, 5, 6, 7, 2, 1, 0] rfl ?_
  exact h11 fu _ _ _ hf
theorem dX3_weigh_0 : decode cX3_weigh 0 = .ok (.aload_n 1, 1) := by decide +kernel
theorem dX3_weigh_1 : decode cX3_weigh 1 = .ok (.getfield 30, 3) := by decide +kernel
theorem dX3_weigh_4 : decode cX3_weigh 4 = .ok (.iload_n 2, 1) := by decide +kernel
theorem dX3_weigh_5 : decode cX3_weigh 5 = .ok (.iload 4, 2) := by decide +kernel
theorem dX3_weigh_7 : decode cX3_weigh 7 = .ok (.aload_n 1, 1) := by decide +kernel
theorem dX3_weigh_8 : decode cX3_weigh 8 = .ok (.getfield 18, 3) := by decide +kernel
theorem dX3_weigh_11 : decode cX3_weigh 11 = .ok (.invokevirtual 24, 3) := by decide +kernel
theorem dX3_weigh_14 : decode cX3_weigh 14 = .ok (.invokevirtual 71, 3) := by decide +kernel
theorem dX3_weigh_17 : decode cX3_weigh 17 = .ok (.istore 5, 2) := by decide +kernel
theorem dX3_weigh_19 : decode cX3_weigh 19 = .ok (.iconst 0, 1) := by decide +kernel
theorem dX3_weigh_20 : decode cX3_weigh 20 = .ok (.istore 6, 2) := by decide +kernel
theorem dX3_weigh_22 : decode cX3_weigh 22 = .ok (.iload 6, 2) := by decide +kernel
theorem dX3_weigh_24 : decode cX3_weigh 24 = .ok (.aload_n 1, 1) := by decide +kernel
theorem dX3_weigh_25 : decode cX3_weigh 25 = .ok (.getfield 48, 3) := by decide +kernel
theorem dX3_weigh_28 : decode cX3_weigh 28 = .ok (.invokevirtual 75, 3) := by decide +kernel
theorem dX3_weigh_31 : decode cX3_weigh 31 = .ok (.if_icmp .ge 127, 3) := by decide +kernel
theorem dX3_weigh_34 : decode cX3_weigh 34 = .ok (.sipush 1000, 3) := by decide +kernel
theorem dX3_weigh_37 : decode cX3_weigh 37 = .ok (.istore 7, 2) := by decide +kernel
theorem dX3_weigh_39 : decode cX3_weigh 39 = .ok (.aload_n 1, 1) := by decide +kernel
theorem dX3_weigh_40 : decode cX3_weigh 40 = .ok (.iload_n 2, 1) := by decide +kernel
theorem dX3_weigh_41 : decode cX3_weigh 41 = .ok (.iload 4, 2) := by decide +kernel
theorem dX3_weigh_43 : decode cX3_weigh 43 = .ok (.iload 6, 2) := by decide +kernel
theorem dX3_weigh_45 : decode cX3_weigh 45 = .ok (.invokestatic 78, 3) := by decide +kernel
theorem dX3_weigh_48 : decode cX3_weigh 48 = .ok (.ifCond .eq 81, 3) := by decide +kernel
theorem dX3_weigh_51 : decode cX3_weigh 51 = .ok (.iload 5, 2) := by decide +kernel
theorem dX3_weigh_53 : decode cX3_weigh 53 = .ok (.ifCond .ge 7, 3) := by decide +kernel
theorem dX3_weigh_56 : decode cX3_weigh 56 = .ok (.iconst (-1), 1) := by decide +kernel
theorem dX3_weigh_57 : decode cX3_weigh 57 = .ok (.goto 16, 3) := by decide +kernel
theorem dX3_weigh_60 : decode cX3_weigh 60 = .ok (.aload_n 0, 1) := by decide +kernel
theorem dX3_weigh_61 : decode cX3_weigh 61 = .ok (.aload_n 1, 1) := by decide +kernel
theorem dX3_weigh_62 : decode cX3_weigh 62 = .ok (.getfield 48, 3) := by decide +kernel
theorem dX3_weigh_65 : decode cX3_weigh 65 = .ok (.iload_n 3, 1) := by decide +kernel
theorem dX3_weigh_66 : decode cX3_weigh 66 = .ok (.iload 5, 2) := by decide +kernel
theorem dX3_weigh_68 : decode cX3_weigh 68 = .ok (.iload 6, 2) := by decide +kernel
theorem dX3_weigh_70 : decode cX3_weigh 70 = .ok (.invokevirtual 56, 3) := by decide +kernel
theorem dX3_weigh_73 : decode cX3_weigh 73 = .ok (.istore 8, 2) := by decide +kernel
theorem dX3_weigh_75 : decode cX3_weigh 75 = .ok (.iload 5, 2) := by decide +kernel
theorem dX3_weigh_77 : decode cX3_weigh 77 = .ok (.ifCond .ge 7, 3) := by decide +kernel
theorem dX3_weigh_80 : decode cX3_weigh 80 = .ok (.iconst 0, 1) := by decide +kernel
theorem dX3_weigh_81 : decode cX3_weigh 81 = .ok (.goto 22, 3) := by decide +kernel
theorem dX3_weigh_84 : decode cX3_weigh 84 = .ok (.iload 8, 2) := by decide +kernel
theorem dX3_weigh_86 : decode cX3_weigh 86 = .ok (.ifCond .ge 9, 3) := by decide +kernel
theorem dX3_weigh_89 : decode cX3_weigh 89 = .ok (.sipush 1000, 3) := by decide +kernel
theorem dX3_weigh_92 : decode cX3_weigh 92 = .ok (.goto 11, 3) := by decide +kernel
theorem dX3_weigh_95 : decode cX3_weigh 95 = .ok (.aload_n 0, 1) := by decide +kernel
theorem dX3_weigh_96 : decode cX3_weigh 96 = .ok (.iload 5, 2) := by decide +kernel
theorem dX3_weigh_98 : decode cX3_weigh 98 = .ok (.iload 8, 2) := by decide +kernel
theorem dX3_weigh_100 : decode cX3_weigh 100 = .ok (.invokevirtual 82, 3) := by decide +kernel
theorem dX3_weigh_103 : decode cX3_weigh 103 = .ok (.istore 9, 2) := by decide +kernel
theorem dX3_weigh_105 : decode cX3_weigh 105 = .ok (.iload 9, 2) := by decide +kernel
theorem dX3_weigh_107 : decode cX3_weigh 107 = .ok (.iload 6, 2) := by decide +kernel
theorem dX3_weigh_109 : decode cX3_weigh 109 = .ok (.aload_n 1, 1) := by decide +kernel
theorem dX3_weigh_110 : decode cX3_weigh 110 = .ok (.getfield 18, 3) := by decide +kernel
theorem dX3_weigh_113 : decode cX3_weigh 113 = .ok (.iload 4, 2) := by decide +kernel
theorem dX3_weigh_115 : decode cX3_weigh 115 = .ok (.invokevirtual 66, 3) := by decide +kernel
theorem dX3_weigh_118 : decode cX3_weigh 118 = .ok (.if_icmp .ne 7, 3) := by decide +kernel
theorem dX3_weigh_121 : decode cX3_weigh 121 = .ok (.iconst 0, 1) := by decide +kernel
theorem dX3_weigh_122 : decode cX3_weigh 122 = .ok (.goto 4, 3) := by decide +kernel
theorem dX3_weigh_125 : decode cX3_weigh 125 = .ok (.iconst 1, 1) := by decide +kernel
theorem dX3_weigh_126 : decode cX3_weigh 126 = .ok (.iadd, 1) := by decide +kernel
theorem dX3_weigh_127 : decode cX3_weigh 127 = .ok (.istore 7, 2) := by decide +kernel
theorem dX3_weigh_129 : decode cX3_weigh 129 = .ok (.aload_n 0, 1) := by decide +kernel
theorem dX3_weigh_130 : decode cX3_weigh 130 = .ok (.getfield 9, 3) := by decide +kernel
theorem dX3_weigh_133 : decode cX3_weigh 133 = .ok (.iload 4, 2) := by decide +kernel
theorem dX3_weigh_135 : decode cX3_weigh 135 = .ok (.bipush 16, 2) := by decide +kernel
theorem dX3_weigh_137 : decode cX3_weigh 137 = .ok (.imul, 1) := by decide +kernel
theorem dX3_weigh_138 : decode cX3_weigh 138 = .ok (.iload 6, 2) := by decide +kernel
theorem dX3_weigh_140 : decode cX3_weigh 140 = .ok (.iadd, 1) := by decide +kernel
theorem dX3_weigh_141 : decode cX3_weigh 141 = .ok (.iload 7, 2) := by decide +kernel
theorem dX3_weigh_143 : decode cX3_weigh 143 = .ok (.sipush 1000, 3) := by decide +kernel
theorem dX3_weigh_146 : decode cX3_weigh 146 = .ok (.invokestatic 85, 3) := by decide +kernel
theorem dX3_weigh_149 : decode cX3_weigh 149 = .ok (.invokestatic 60, 3) := by decide +kernel
theorem dX3_weigh_152 : decode cX3_weigh 152 = .ok (.iinc 6 1, 3) := by decide +kernel
theorem dX3_weigh_155 : decode cX3_weigh 155 = .ok (.goto (-133), 3) := by decide +kernel
theorem dX3_weigh_158 : decode cX3_weigh 158 = .ok (.return_, 1) := by decide +kernel
theorem q0_8 : Cond.selects RX3 yX3_best yX3_best ∈ TT := tq0 8 rfl rfl
theorem q3_228 : Cond.methodLink RX3 24 yX4_size ∈ TT := tq3 228 rfl rfl
theorem q4_6 : Cond.methodLink RX3 71 yX1_behind ∈ TT := tq4 6 rfl rfl
theorem q4_8 : Cond.methodLink RX3 78 yX3_mayBecome ∈ TT := tq4 8 rfl rfl
theorem q4_9 : Cond.static yX3_mayBecome ∈ TT := tq4 9 rfl rfl
theorem q4_10 : Cond.code yX3_mayBecome cX3_mayBecome 4 (some .boolean) ∈ TT := tq4 10 rfl rfl
theorem q4_16 : Cond.methodLink RX3 56 yX3_best ∈ TT := tq4 16 rfl rfl
theorem q4_18 : Cond.instanceMethod yX3_best ∈ TT := tq4 18 rfl rfl
theorem q4_19 : Cond.code yX3_best cX3_best 8 (some .int) ∈ TT := tq4 19 rfl rfl
theorem q4_26 : Cond.methodLink RX3 85 Lib.Math.min.name ∈ TT := tq4 26 rfl rfl
theorem q4_27 : Cond.methodLink RX3 60 yX6_set ∈ TT := tq4 27 rfl rfl
theorem lk_RX3_60 : slk RX3 60 yX6_set cX6_set 3 none 3 := ⟨List.forall_mem_cons.mpr ⟨q4_27, List.forall_mem_cons.mpr ⟨q2_178, List.forall_mem_cons.mpr ⟨q1_19, fun _ h => absurd h List.not_mem_nil⟩⟩⟩, q2_179, by decide, by decide, by decide +kernel⟩
theorem mr_RX3_85 : ∀ w ∈ ([.methodLink RX3 85 Lib.Math.min.name, .static Lib.Math.min.name, .initialized "java/lang/Math", .code Lib.Math.min.name Lib.Math.min.code 2 (some .int)] : List Cond), w ∈ TT := List.forall_mem_cons.mpr ⟨q4_26, List.forall_mem_cons.mpr ⟨q1_82, List.forall_mem_cons.mpr ⟨q1_5, List.forall_mem_cons.mpr ⟨q1_83, fun _ h => absurd h List.not_mem_nil⟩⟩⟩⟩
theorem lk_RX3_78 : slk RX3 78 yX3_mayBecome cX3_mayBecome 4 (some .boolean) 4 := ⟨List.forall_mem_cons.mpr ⟨q4_8, List.forall_mem_cons.mpr ⟨q4_9, List.forall_mem_cons.mpr ⟨q1_6, fun _ h => absurd h List.not_mem_nil⟩⟩⟩, q4_10, by decide, by decide, by decide +kernel⟩
theorem lk_RX3_56 : vlk RX3 56 yX3_best cX3_best 8 (some .int) 4 := ⟨List.forall_mem_cons.mpr ⟨q4_16, List.forall_mem_cons.mpr ⟨q4_18, List.forall_mem_cons.mpr ⟨q0_8, List.forall_mem_cons.mpr ⟨q1_6, fun _ h => absurd h List.not_mem_nil⟩⟩⟩⟩, q4_19, by decide, by decide, by decide +kernel⟩
theorem lk_RX3_24 : vlk RX3 24 yX4_size cX4_size 1 (some .int) 0 := ⟨List.forall_mem_cons.mpr ⟨q3_228, List.forall_mem_cons.mpr ⟨q2_231, List.forall_mem_cons.mpr ⟨q2_232, List.forall_mem_cons.mpr ⟨q1_4, fun _ h => absurd h List.not_mem_nil⟩⟩⟩⟩, q2_233, by decide, by decide, by decide +kernel⟩
theorem lk_RX3_71 : vlk RX3 71 yX1_behind cX1_behind 5 (some .int) 3 := ⟨List.forall_mem_cons.mpr ⟨q4_6, List.forall_mem_cons.mpr ⟨q3_239, List.forall_mem_cons.mpr ⟨q4_0, List.forall_mem_cons.mpr ⟨q1_11, fun _ h => absurd h List.not_mem_nil⟩⟩⟩⟩, q4_1, by decide, by decide, by decide +kernel⟩
def F_X3_weigh_b129 (s_a1 : S7) (s_a1_forms : S1) (s_a1_paper : S4) (s_a1_words : S10) (x2 : Int32) (x3 : Int32) (x4 : Int32) (K22 : Int32 → Int32 → S3 → Option (S3)) (v5 : Int32) (v6 : Int32) (v7 : Int32) (zs_o : S3) : Option (S3) := (F_X6_set 128 (s3_costs zs_o) ((x4 * 16) + v6) (if 1000 < v7 then 1000 else v7)).bind fun q_1 => nm (v6 + 1) fun v6_2 => K22 v5 v6_2 (u3_costs zs_o q_1)
def F_X3_weigh_b126 (s_a1 : S7) (s_a1_forms : S1) (s_a1_paper : S4) (s_a1_words : S10) (x2 : Int32) (x3 : Int32) (x4 : Int32) (K22 : Int32 → Int32 → S3 → Option (S3)) (v5 : Int32) (v6 : Int32) (zs_o : S3) (k0 : Int32) (k1 : Int32) : Option (S3) := nm (k0 + k1) fun v7_3 => F_X3_weigh_b129 s_a1 s_a1_forms s_a1_paper s_a1_words x2 x3 x4 K22 v5 v6 v7_3 zs_o
def F_X3_weigh_b103 (s_a1 : S7) (s_a1_forms : S1) (s_a1_paper : S4) (s_a1_words : S10) (x2 : Int32) (x3 : Int32) (x4 : Int32) (K22 : Int32 → Int32 → S3 → Option (S3)) (v5 : Int32) (v6 : Int32) (zs_o : S3) (k0 : Int32) : Option (S3) := nm k0 fun v9_4 => (F_X4_wordAt s_a1_paper x4).bind fun q_5 => (if v6 = q_5 then F_X3_weigh_b126 s_a1 s_a1_forms s_a1_paper s_a1_words x2 x3 x4 K22 v5 v6 zs_o v9_4 0 else F_X3_weigh_b126 s_a1 s_a1_forms s_a1_paper s_a1_words x2 x3 x4 K22 v5 v6 zs_o v9_4 1)
def F_X3_weigh_b73 (s_a1 : S7) (s_a1_forms : S1) (s_a1_paper : S4) (s_a1_words : S10) (x2 : Int32) (x3 : Int32) (x4 : Int32) (K22 : Int32 → Int32 → S3 → Option (S3)) (v5 : Int32) (v6 : Int32) (zs_o : S3) (k0 : Int32) : Option (S3) := nm k0 fun v8_6 => (if 0 ≤ v5 then (if 0 ≤ v8_6 then (F_X3_costAt zs_o v5 v8_6).bind fun q_7 => F_X3_weigh_b103 s_a1 s_a1_forms s_a1_paper s_a1_words x2 x3 x4 K22 v5 v6 zs_o q_7 else F_X3_weigh_b103 s_a1 s_a1_forms s_a1_paper s_a1_words x2 x3 x4 K22 v5 v6 zs_o 1000) else F_X3_weigh_b103 s_a1 s_a1_forms s_a1_paper s_a1_words x2 x3 x4 K22 v5 v6 zs_o 0)
def F_X3_weigh_b22 (s_a1 : S7) (s_a1_forms : S1) (s_a1_paper : S4) (s_a1_words : S10) (x2 : Int32) (x3 : Int32) (x4 : Int32) : Nat → Int32 → Int32 → S3 → Option (S3)
  | 0, _, _, _ => none
  | n + 1, v5, v6, zs_o => (F_X10_size s_a1_words).bind fun q_8 => (if q_8 ≤ v6 then some (zs_o) else nm 1000 fun v7_9 => (F_X3_mayBecome s_a1 s_a1_forms s_a1_paper s_a1_words x2 x4 v6).bind fun q_10 => (if q_10 = 0 then F_X3_weigh_b129 s_a1 s_a1_forms s_a1_paper s_a1_words x2 x3 x4 (F_X3_weigh_b22 s_a1 s_a1_forms s_a1_paper s_a1_words x2 x3 x4 n) v5 v6 v7_9 zs_o else (if 0 ≤ v5 then (F_X3_best s_a1_words zs_o x3 v5 v6).bind fun q_11 => F_X3_weigh_b73 s_a1 s_a1_forms s_a1_paper s_a1_words x2 x3 x4 (F_X3_weigh_b22 s_a1 s_a1_forms s_a1_paper s_a1_words x2 x3 x4 n) v5 v6 zs_o q_11 else F_X3_weigh_b73 s_a1 s_a1_forms s_a1_paper s_a1_words x2 x3 x4 (F_X3_weigh_b22 s_a1 s_a1_forms s_a1_paper s_a1_words x2 x3 x4 n) v5 v6 zs_o (-1))))
def F_X3_weigh (s_a1 : S7) (s_o : S3) (s_a1_forms : S1) (s_a1_paper : S4) (s_a1_words : S10) (x2 : Int32) (x3 : Int32) (x4 : Int32) : Option (S3) := (F_X4_size s_a1_paper).bind fun q_12 => (F_X1_behind s_a1_forms x2 x4 q_12).bind fun q_13 => nm q_13 fun v5_14 => nm 0 fun v6_15 => F_X3_weigh_b22 s_a1 s_a1_forms s_a1_paper s_a1_words x2 x3 x4 fu v5_14 v6_15 s_o
def w_X3_weigh (a1 o a1_forms a1_paper a1_words a1_stock : Nat → Nat) (cB cI cJ cZ : ClassId) (s_a1 : S7) (s_o : S3) (s_a1_forms : S1) (s_a1_paper : S4) (s_a1_words : S10) : va_W := [(a1 0, .inr (5, [.ref (a1_words 0), .ref (a1_forms 0), .ref (a1_paper 0), .ref (a1_stock 0), .ref (a1 1)])), (a1 1, .inl (cI, 8, .inl (s7_metres s_a1))), (o 0, .inr (3, [.ref (o 1), .ref (o 2)])), (o 1, .inl (cI, 128, .inl (s3_costs s_o))), (o 2, .inl (cI, 8, .inl (s3_row s_o))), (a1_forms 0, .inr (1, [.ref (a1_forms 1), .ref (a1_forms 2), .int (s1_size s_a1_forms)])), (a1_forms 1, .inl (cI, 16, .inl (s1_letters s_a1_forms))), (a1_forms 2, .inl (cI, 2, .inl (s1_lengths s_a1_forms))), (a1_paper 0, .inr (4, [.ref (a1_paper 1), .ref (a1_paper 2), .ref (a1_paper 3), .int (s4_most s_a1_paper), .int (s4_size s_a1_paper)])), (a1_paper 1, .inl (cI, 8, .inl (s4_words s_a1_paper))), (a1_paper 2, .inl (cI, 8, .inl (s4_things s_a1_paper))), (a1_paper 3, .inl (cI, 8, .inl (s4_befores s_a1_paper))), (a1_words 0, .inr (8, [.ref (a1_words 1), .ref (a1_words 2), .ref (a1_words 3), .int (s10_size s_a1_words)])), (a1_words 1, .inl (cI, 48, .inl (s10_sounds s_a1_words))), (a1_words 2, .inl (cI, 16, .inl (s10_meanings s_a1_words))), (a1_words 3, .inl (cI, 16, .inl (s10_syllables s_a1_words)))]
abbrev rm_X3_weigh : Room := { frames := 4, cells := 0, slots := 0, locals := 93 }
set_option maxHeartbeats 4000000 in
set_option maxRecDepth 100000 in
theorem c_X3_weigh (l : Launch) (D : va_G) (cB cI cJ cZ : ClassId) (a1 o a1_forms a1_paper a1_words a1_stock : Nat → Nat) (s_a1 : S7) (s_o : S3) (s_a1_forms : S1) (s_a1_paper : S4) (s_a1_words : S10) (x2 : Int32) (x3 : Int32) (x4 : Int32) (r : S3) (hf : F_X3_weigh s_a1 s_o s_a1_forms s_a1_paper s_a1_words x2 x3 x4 = some r) : gM l D (tyL cB cI cJ cZ) yX3_weigh cX3_weigh 10 none rm_X3_weigh [.ref (o 0), .ref (a1 0), .int x2, .int x3, .int x4] (w_X3_weigh a1 o a1_forms a1_paper a1_words a1_stock cB cI cJ cZ s_a1 s_o s_a1_forms s_a1_paper s_a1_words) none (w_X3_weigh a1 o a1_forms a1_paper a1_words a1_stock cB cI cJ cZ s_a1 r s_a1_forms s_a1_paper s_a1_words) := by
  refine met_of (by decide) (Nat.le_of_ble_eq_true rfl) ?_
  intro p e s m args below meth c A cx hr hA
  show gW p l e rm_X3_weigh s m args below meth c D A 10 _ _ [(0, .ref (o 0)), (1, .ref (a1 0)), (2, .int x2), (3, .int x3), (4, .int x4)] 0 []
  have h129 : ∀ (K22 : Int32 → Int32 → S3 → Option (S3)), (∀ (v5 : Int32) (v6 : Int32) (zs_o : S3), K22 v5 v6 zs_o = some r → gW p l e rm_X3_weigh s m args below meth c D A 10 (MQ below (QM D (tyL cB cI cJ cZ) none (w_X3_weigh a1 o a1_forms a1_paper a1_words a1_stock cB cI cJ cZ s_a1 s_o s_a1_forms s_a1_paper s_a1_words) (w_X3_weigh a1 o a1_forms a1_paper a1_words a1_stock cB cI cJ cZ s_a1 r s_a1_forms s_a1_paper s_a1_words) s.heap.size) args s 0 0 A) (w_X3_weigh a1 o a1_forms a1_paper a1_words a1_stock cB cI cJ cZ s_a1 zs_o s_a1_forms s_a1_paper s_a1_words) [(0, .ref (o 0)), (1, .ref (a1 0)), (2, .int x2), (3, .int x3), (4, .int x4), (5, .int v5), (6, .int v6)] 22 []) → ∀ (v5 : Int32) (v6 : Int32) (v7 : Int32) (zs_o : S3), F_X3_weigh_b129 s_a1 s_a1_forms s_a1_paper s_a1_words x2 x3 x4 K22 v5 v6 v7 zs_o = some r → gW p l e rm_X3_weigh s m args below meth c D A 10 (MQ below (QM D (tyL cB cI cJ cZ) none (w_X3_weigh a1 o a1_forms a1_paper a1_words a1_stock cB cI cJ cZ s_a1 s_o s_a1_forms s_a1_paper s_a1_words) (w_X3_weigh a1 o a1_forms a1_paper a1_words a1_stock cB cI cJ cZ s_a1 r s_a1_forms s_a1_paper s_a1_words) s.heap.size) args s 0 0 A) (w_X3_weigh a1 o a1_forms a1_paper a1_words a1_stock cB cI cJ cZ s_a1 zs_o s_a1_forms s_a1_paper s_a1_words) [(0, .ref (o 0)), (1, .ref (a1 0)), (2, .int x2), (3, .int x3), (4, .int x4), (5, .int v5), (6, .int v6), (7, .int v7)] 129 [] := by
    intro K22 k22 v5 v6 v7 zs_o hf
    rw [F_X3_weigh_b129] at hf
    refine g_aln cx 0 dX3_weigh_129 rfl ?_
    refine fg_RX3_9 cx 2 rfl rfl dX3_weigh_130 ?_
    refine g_il cx 4 dX3_weigh_133 rfl ?_
    refine g_bp cx dX3_weigh_135 k_bp16 ?_
    refine g_imul cx dX3_weigh_137 ?_
    refine g_il cx 6 dX3_weigh_138 rfl ?_
    refine g_iadd cx dX3_weigh_140 ?_
    refine g_il cx 7 dX3_weigh_141 rfl ?_
    refine g_sp cx dX3_weigh_143 k_sp1000 ?_
    refine g_min cx mr_RX3_85 (Nat.le_of_ble_eq_true rfl) ⟨Nat.le_of_ble_eq_true rfl, Nat.le_of_ble_eq_true rfl⟩ dX3_weigh_146 ?_
    refine ob hf (fun q_1 hq_1 hf => ?_)
    refine g_callSv cx lk_RX3_60 (c_X6_set l D cB cI cJ cZ (o 1) 128 (s3_costs zs_o) ((x4 * 16) + v6) (if 1000 < v7 then 1000 else v7) q_1 hq_1) rfl [3] rfl rfl (ws' := (w_X3_weigh a1 o a1_forms a1_paper a1_words a1_stock cB cI cJ cZ s_a1 (u3_costs zs_o q_1) s_a1_forms s_a1_paper s_a1_words)) rfl rfl rfl (Nat.le_of_ble_eq_true rfl) ⟨rfl, rfl, Nat.le_of_ble_eq_true rfl, Nat.le_of_ble_eq_true rfl⟩ dX3_weigh_149 ?_
    refine g_inc cx (L2 := fun v6_2 => [(6, .int v6_2), (0, .ref (o 0)), (1, .ref (a1 0)), (2, .int x2), (3, .int x3), (4, .int x4), (5, .int v5), (7, .int v7)]) 6 hf dX3_weigh_152 rfl (k_inc1 _) (Nat.le_of_ble_eq_true rfl) (fun _ => rfl) (fun v6_2 hf => ?_)
    refine g_goto (tgt := 22) cx dX3_weigh_155 rfl ?_
    refine g_sub [1, 2, 3, 4, 5, 6, 0] rfl ?_
    exact k22 _ _ _ hf
  have h126 : ∀ (K22 : Int32 → Int32 → S3 → Option (S3)), (∀ (v5 : Int32) (v6 : Int32) (zs_o : S3), K22 v5 v6 zs_o = some r → gW p l e rm_X3_weigh s m args below meth c D A 10 (MQ below (QM D (tyL cB cI cJ cZ) none (w_X3_weigh a1 o a1_forms a1_paper a1_words a1_stock cB cI cJ cZ s_a1 s_o s_a1_forms s_a1_paper s_a1_words) (w_X3_weigh a1 o a1_forms a1_paper a1_words a1_stock cB cI cJ cZ s_a1 r s_a1_forms s_a1_paper s_a1_words) s.heap.size) args s 0 0 A) (w_X3_weigh a1 o a1_forms a1_paper a1_words a1_stock cB cI cJ cZ s_a1 zs_o s_a1_forms s_a1_paper s_a1_words) [(0, .ref (o 0)), (1, .ref (a1 0)), (2, .int x2), (3, .int x3), (4, .int x4), (5, .int v5), (6, .int v6)] 22 []) → ∀ (v5 : Int32) (v6 : Int32) (zs_o : S3) (k0 : Int32) (k1 : Int32), F_X3_weigh_b126 s_a1 s_a1_forms s_a1_paper s_a1_words x2 x3 x4 K22 v5 v6 zs_o k0 k1 = some r → gW p l e rm_X3_weigh s m args below meth c D A 10 (MQ below (QM D (tyL cB cI cJ cZ) none (w_X3_weigh a1 o a1_forms a1_paper a1_words a1_stock cB cI cJ cZ s_a1 s_o s_a1_forms s_a1_paper s_a1_words) (w_X3_weigh a1 o a1_forms a1_paper a1_words a1_stock cB cI cJ cZ s_a1 r s_a1_forms s_a1_paper s_a1_words) s.heap.size) args s 0 0 A) (w_X3_weigh a1 o a1_forms a1_paper a1_words a1_stock cB cI cJ cZ s_a1 zs_o s_a1_forms s_a1_paper s_a1_words) [(0, .ref (o 0)), (1, .ref (a1 0)), (2, .int x2), (3, .int x3), (4, .int x4), (5, .int v5), (6, .int v6)] 126 [.int k1, .int k0] := by
    intro K22 k22 v5 v6 zs_o k0 k1 hf
    rw [F_X3_weigh_b126] at hf
    refine g_iadd cx dX3_weigh_126 ?_
    refine g_is cx (L2 := fun v7_3 => [(7, .int v7_3), (0, .ref (o 0)), (1, .ref (a1 0)), (2, .int x2), (3, .int x3), (4, .int x4), (5, .int v5), (6, .int v6)]) hf dX3_weigh_127 (Nat.le_of_ble_eq_true rfl) (fun _ => rfl) (fun v7_3 hf => ?_)
    refine g_sub [1, 2, 3, 4, 5, 6, 7, 0] rfl ?_
    exact h129 _ k22 _ _ _ _ hf
  have h103 : ∀ (K22 : Int32 → Int32 → S3 → Option (S3)), (∀ (v5 : Int32) (v6 : Int32) (zs_o : S3), K22 v5 v6 zs_o = some r → gW p l e rm_X3_weigh s m args below meth c D A 10 (MQ below (QM D (tyL cB cI cJ cZ) none (w_X3_weigh a1 o a1_forms a1_paper a1_words a1_stock cB cI cJ cZ s_a1 s_o s_a1_forms s_a1_paper s_a1_words) (w_X3_weigh a1 o a1_forms a1_paper a1_words a1_stock cB cI cJ cZ s_a1 r s_a1_forms s_a1_paper s_a1_words) s.heap.size) args s 0 0 A) (w_X3_weigh a1 o a1_forms a1_paper a1_words a1_stock cB cI cJ cZ s_a1 zs_o s_a1_forms s_a1_paper s_a1_words) [(0, .ref (o 0)), (1, .ref (a1 0)), (2, .int x2), (3, .int x3), (4, .int x4), (5, .int v5), (6, .int v6)] 22 []) → ∀ (v5 : Int32) (v6 : Int32) (zs_o : S3) (k0 : Int32), F_X3_weigh_b103 s_a1 s_a1_forms s_a1_paper s_a1_words x2 x3 x4 K22 v5 v6 zs_o k0 = some r → gW p l e rm_X3_weigh s m args below meth c D A 10 (MQ below (QM D (tyL cB cI cJ cZ) none (w_X3_weigh a1 o a1_forms a1_paper a1_words a1_stock cB cI cJ cZ s_a1 s_o s_a1_forms s_a1_paper s_a1_words) (w_X3_weigh a1 o a1_forms a1_paper a1_words a1_stock cB cI cJ cZ s_a1 r s_a1_forms s_a1_paper s_a1_words) s.heap.size) args s 0 0 A) (w_X3_weigh a1 o a1_forms a1_paper a1_words a1_stock cB cI cJ cZ s_a1 zs_o s_a1_forms s_a1_paper s_a1_words) [(0, .ref (o 0)), (1, .ref (a1 0)), (2, .int x2), (3, .int x3), (4, .int x4), (5, .int v5), (6, .int v6)] 103 [.int k0] := by
    intro K22 k22 v5 v6 zs_o k0 hf
    rw [F_X3_weigh_b103] at hf
    refine g_is cx (L2 := fun v9_4 => [(9, .int v9_4), (0, .ref (o 0)), (1, .ref (a1 0)), (2, .int x2), (3, .int x3), (4, .int x4), (5, .int v5), (6, .int v6)]) hf dX3_weigh_103 (Nat.le_of_ble_eq_true rfl) (fun _ => rfl) (fun v9_4 hf => ?_)
    refine g_il cx 0 dX3_weigh_105 rfl ?_
    refine g_il cx 7 dX3_weigh_107 rfl ?_
    refine g_aln cx 2 dX3_weigh_109 rfl ?_
    refine fg_RX3_18 cx 0 rfl rfl dX3_weigh_110 ?_
    refine g_il cx 5 dX3_weigh_113 rfl ?_
    refine ob hf (fun q_5 hq_5 hf => ?_)
    refine g_callViR cx lk_RX3_66 (c_X4_wordAt l D cB cI cJ cZ a1_paper s_a1_paper x4 q_5 hq_5) rfl [8, 9, 10, 11] rfl rfl (ci := 4) (q1 := 0) rfl rfl rfl (Nat.le_of_ble_eq_true rfl) ⟨rfl, rfl, Nat.le_of_ble_eq_true rfl, Nat.le_of_ble_eq_true rfl⟩ dX3_weigh_115 ?_
    refine g_ic_ne (tgt := 125) cx hf dX3_weigh_118 rfl (fun hf => ?_) (fun hf => ?_)
    · refine g_ic cx dX3_weigh_125 k_ic1 ?_
      refine g_sub [1, 2, 3, 4, 5, 6, 7] rfl ?_
      exact h126 _ k22 _ _ _ _ _ hf
    · refine g_ic cx dX3_weigh_121 k_ic0 ?_
      refine g_goto (tgt := 126) cx dX3_weigh_122 rfl ?_
      refine g_sub [1, 2, 3, 4, 5, 6, 7] rfl ?_
      exact h126 _ k22 _ _ _ _ _ hf
  have h73 : ∀ (K22 : Int32 → Int32 → S3 → Option (S3)), (∀ (v5 : Int32) (v6 : Int32) (zs_o : S3), K22 v5 v6 zs_o = some r → gW p l e rm_X3_weigh s m args below meth c D A 10 (MQ below (QM D (tyL cB cI cJ cZ) none (w_X3_weigh a1 o a1_forms a1_paper a1_words a1_stock cB cI cJ cZ s_a1 s_o s_a1_forms s_a1_paper s_a1_words) (w_X3_weigh a1 o a1_forms a1_paper a1_words a1_stock cB cI cJ cZ s_a1 r s_a1_forms s_a1_paper s_a1_words) s.heap.size) args s 0 0 A) (w_X3_weigh a1 o a1_forms a1_paper a1_words a1_stock cB cI cJ cZ s_a1 zs_o s_a1_forms s_a1_paper s_a1_words) [(0, .ref (o 0)), (1, .ref (a1 0)), (2, .int x2), (3, .int x3), (4, .int x4), (5, .int v5), (6, .int v6)] 22 []) → ∀ (v5 : Int32) (v6 : Int32) (zs_o : S3) (k0 : Int32), F_X3_weigh_b73 s_a1 s_a1_forms s_a1_paper s_a1_words x2 x3 x4 K22 v5 v6 zs_o k0 = some r → gW p l e rm_X3_weigh s m args below meth c D A 10 (MQ below (QM D (tyL cB cI cJ cZ) none (w_X3_weigh a1 o a1_forms a1_paper a1_words a1_stock cB cI cJ cZ s_a1 s_o s_a1_forms s_a1_paper s_a1_words) (w_X3_weigh a1 o a1_forms a1_paper a1_words a1_stock cB cI cJ cZ s_a1 r s_a1_forms s_a1_paper s_a1_words) s.heap.size) args s 0 0 A) (w_X3_weigh a1 o a1_forms a1_paper a1_words a1_stock cB cI cJ cZ s_a1 zs_o s_a1_forms s_a1_paper s_a1_words) [(0, .ref (o 0)), (1, .ref (a1 0)), (2, .int x2), (3, .int x3), (4, .int x4), (5, .int v5), (6, .int v6)] 73 [.int k0] := by
    intro K22 k22 v5 v6 zs_o k0 hf
    rw [F_X3_weigh_b73] at hf
    refine g_is cx (L2 := fun v8_6 => [(8, .int v8_6), (0, .ref (o 0)), (1, .ref (a1 0)), (2, .int x2), (3, .int x3), (4, .int x4), (5, .int v5), (6, .int v6)]) hf dX3_weigh_73 (Nat.le_of_ble_eq_true rfl) (fun _ => rfl) (fun v8_6 hf => ?_)
    refine g_il cx 6 dX3_weigh_75 rfl ?_
    refine g_if_ge (tgt := 84) cx hf dX3_weigh_77 rfl (fun hf => ?_) (fun hf => ?_)
    · refine g_il cx 0 dX3_weigh_84 rfl ?_
      refine g_if_ge (tgt := 95) cx hf dX3_weigh_86 rfl (fun hf => ?_) (fun hf => ?_)
      · refine g_aln cx 1 dX3_weigh_95 rfl ?_
        refine g_il cx 6 dX3_weigh_96 rfl ?_
        refine g_il cx 0 dX3_weigh_98 rfl ?_
        refine ob hf (fun q_7 hq_7 hf => ?_)
        refine g_callViR cx lk_RX3_82 (c_X3_costAt l D cB cI cJ cZ o zs_o v5 v8_6 q_7 hq_7) rfl [2, 3, 4] rfl rfl (ci := 3) (q1 := 0) rfl rfl rfl (Nat.le_of_ble_eq_true rfl) ⟨rfl, rfl, Nat.le_of_ble_eq_true rfl, Nat.le_of_ble_eq_true rfl⟩ dX3_weigh_100 ?_
        refine g_sub [1, 2, 3, 4, 5, 6, 7] rfl ?_
        exact h103 _ k22 _ _ _ _ hf
      · refine g_sp cx dX3_weigh_89 k_sp1000 ?_
        refine g_goto (tgt := 103) cx dX3_weigh_92 rfl ?_
        refine g_sub [1, 2, 3, 4, 5, 6, 7] rfl ?_
        exact h103 _ k22 _ _ _ _ hf
    · refine g_ic cx dX3_weigh_80 k_ic0 ?_
      refine g_goto (tgt := 103) cx dX3_weigh_81 rfl ?_
      refine g_sub [1, 2, 3, 4, 5, 6, 7] rfl ?_
      exact h103 _ k22 _ _ _ _ hf
  have h22 : ∀ (n : Nat) (v5 : Int32) (v6 : Int32) (zs_o : S3), F_X3_weigh_b22 s_a1 s_a1_forms s_a1_paper s_a1_words x2 x3 x4 n v5 v6 zs_o = some r → gW p l e rm_X3_weigh s m args below meth c D A 10 (MQ below (QM D (tyL cB cI cJ cZ) none (w_X3_weigh a1 o a1_forms a1_paper a1_words a1_stock cB cI cJ cZ s_a1 s_o s_a1_forms s_a1_paper s_a1_words) (w_X3_weigh a1 o a1_forms a1_paper a1_words a1_stock cB cI cJ cZ s_a1 r s_a1_forms s_a1_paper s_a1_words) s.heap.size) args s 0 0 A) (w_X3_weigh a1 o a1_forms a1_paper a1_words a1_stock cB cI cJ cZ s_a1 zs_o s_a1_forms s_a1_paper s_a1_words) [(0, .ref (o 0)), (1, .ref (a1 0)), (2, .int x2), (3, .int x3), (4, .int x4), (5, .int v5), (6, .int v6)] 22 [] := by
    intro n
    induction n with
    | zero => intro v5 v6 zs_o hf; rw [F_X3_weigh_b22] at hf; cases hf
    | succ n ih =>
      intro v5 v6 zs_o hf
      rw [F_X3_weigh_b22] at hf
      refine g_il cx 6 dX3_weigh_22 rfl ?_
      refine g_aln cx 1 dX3_weigh_24 rfl ?_
      refine fg_RX3_48 cx 0 rfl rfl dX3_weigh_25 ?_
      refine ob hf (fun q_8 hq_8 hf => ?_)
      refine g_callViR cx lk_RX3_75 (c_X10_size l D cB cI cJ cZ a1_words s_a1_words q_8 hq_8) rfl [12, 13, 14, 15] rfl rfl (ci := 8) (q1 := 0) rfl rfl rfl (Nat.le_of_ble_eq_true rfl) ⟨rfl, rfl, Nat.le_of_ble_eq_true rfl, Nat.le_of_ble_eq_true rfl⟩ dX3_weigh_28 ?_
      refine g_ic_ge (tgt := 158) cx hf dX3_weigh_31 rfl (fun hf => ?_) (fun hf => ?_)
      · exact g_vret (ovf := fun (r : S3) => none) (wf := fun (r : S3) => (w_X3_weigh a1 o a1_forms a1_paper a1_words a1_stock cB cI cJ cZ s_a1 r s_a1_forms s_a1_paper s_a1_words)) cx hA hr hf rfl rfl dX3_weigh_158
      · refine g_sp cx dX3_weigh_34 k_sp1000 ?_
        refine g_is cx (L2 := fun v7_9 => [(7, .int v7_9), (0, .ref (o 0)), (1, .ref (a1 0)), (2, .int x2), (3, .int x3), (4, .int x4), (5, .int v5), (6, .int v6)]) hf dX3_weigh_37 (Nat.le_of_ble_eq_true rfl) (fun _ => rfl) (fun v7_9 hf => ?_)
        refine g_aln cx 2 dX3_weigh_39 rfl ?_
        refine g_iln cx 3 dX3_weigh_40 rfl ?_
        refine g_il cx 5 dX3_weigh_41 rfl ?_
        refine g_il cx 7 dX3_weigh_43 rfl ?_
        refine ob hf (fun q_10 hq_10 hf => ?_)
        refine g_callSiR cx lk_RX3_78 (c_X3_mayBecome l D cB cI cJ cZ a1 a1_forms a1_paper a1_words a1_stock s_a1 s_a1_forms s_a1_paper s_a1_words x2 x4 v6 q_10 hq_10) rfl [0, 1, 5, 6, 7, 8, 9, 10, 11, 12, 13, 14, 15] rfl rfl rfl (Nat.le_of_ble_eq_true rfl) ⟨rfl, rfl, Nat.le_of_ble_eq_true rfl, Nat.le_of_ble_eq_true rfl⟩ dX3_weigh_45 ?_
        refine g_if_eq (tgt := 129) cx hf dX3_weigh_48 rfl (fun hf => ?_) (fun hf => ?_)
        · refine g_sub [1, 2, 3, 4, 5, 6, 7, 0] rfl ?_
          exact h129 _ ih _ _ _ _ hf
        · refine g_il cx 6 dX3_weigh_51 rfl ?_
          refine g_if_ge (tgt := 60) cx hf dX3_weigh_53 rfl (fun hf => ?_) (fun hf => ?_)
          · refine g_aln cx 1 dX3_weigh_60 rfl ?_
            refine g_aln cx 2 dX3_weigh_61 rfl ?_
            refine fg_RX3_48 cx 0 rfl rfl dX3_weigh_62 ?_
            refine g_iln cx 4 dX3_weigh_65 rfl ?_
            refine g_il cx 6 dX3_weigh_66 rfl ?_
            refine g_il cx 7 dX3_weigh_68 rfl ?_
            refine ob hf (fun q_11 hq_11 hf => ?_)
            refine g_callViR cx lk_RX3_56 (c_X3_best l D cB cI cJ cZ a1_words o s_a1_words zs_o x3 v5 v6 q_11 hq_11) rfl [12, 13, 14, 15, 2, 3, 4] rfl rfl (ci := 3) (q1 := 4) rfl rfl rfl (Nat.le_of_ble_eq_true rfl) ⟨rfl, rfl, Nat.le_of_ble_eq_true rfl, Nat.le_of_ble_eq_true rfl⟩ dX3_weigh_70 ?_
            refine g_sub [1, 2, 3, 4, 5, 6, 7] rfl ?_
            exact h73 _ ih _ _ _ _ hf
          · refine g_ic cx dX3_weigh_56 k_icm1 ?_
            refine g_goto (tgt := 73) cx dX3_weigh_57 rfl ?_
            refine g_sub [1, 2, 3, 4, 5, 6, 7] rfl ?_
            exact h73 _ ih _ _ _ _ hf
  rw [F_X3_weigh] at hf
  refine g_aln cx 1 dX3_weigh_0 rfl ?_
  refine fg_RX3_30 cx 0 rfl rfl dX3_weigh_1 ?_
  refine g_iln cx 2 dX3_weigh_4 rfl ?_
  refine g_il cx 4 dX3_weigh_5 rfl ?_
  refine g_aln cx 1 dX3_weigh_7 rfl ?_
  refine fg_RX3_18 cx 0 rfl rfl dX3_weigh_8 ?_
  refine ob hf (fun q_12 hq_12 hf => ?_)
  refine g_callViR cx lk_RX3_24 (c_X4_size l D cB cI cJ cZ a1_paper s_a1_paper q_12 hq_12) rfl [8, 9, 10, 11] rfl rfl (ci := 4) (q1 := 0) rfl rfl rfl (Nat.le_of_ble_eq_true rfl) ⟨rfl, rfl, Nat.le_of_ble_eq_true rfl, Nat.le_of_ble_eq_true rfl⟩ dX3_weigh_11 ?_
  refine ob hf (fun q_13 hq_13 hf => ?_)
  refine g_callViR cx lk_RX3_71 (c_X1_behind l D cB cI cJ cZ a1_forms s_a1_forms x2 x4 q_12 q_13 hq_13) rfl [5, 6, 7] rfl rfl (ci := 1) (q1 := 0) rfl rfl rfl (Nat.le_of_ble_eq_true rfl) ⟨rfl, rfl, Nat.le_of_ble_eq_true rfl, Nat.le_of_ble_eq_true rfl⟩ dX3_weigh_14 ?_
  refine g_is cx (L2 := fun v5_14 => [(5, .int v5_14), (0, .ref (o 0)), (1, .ref (a1 0)), (2, .int x2), (3, .int x3), (4, .int x4)]) hf dX3_weigh_17 (Nat.le_of_ble_eq_true rfl) (fun _ => rfl) (fun v5_14 hf => ?_)
  refine g_ic cx dX3_weigh_19 k_ic0 ?_
  refine g_is cx (L2 := fun v6_15 => [(6, .int v6_15), (5, .int v5_14), (0, .ref (o 0)), (1, .ref (a1 0)), (2, .int x2), (3, .int x3), (4, .int x4)]) hf dX3_weigh_20 (Nat.le_of_ble_eq_true rfl) (fun _ => rfl) (fun v6_15 hf => ?_)
  refine g_sub [2, 3, 4, 5, 6, 1, 0] rfl ?_
  exact h22 fu _ _ _ hf
theorem dX3_wordAt_0 : decode cX3_wordAt 0 = .ok (.aload_n 0, 1) := by decide +kernel
theorem dX3_wordAt_1 : decode cX3_wordAt 1 = .ok (.getfield 15, 3) := by decide +kernel
theorem dX3_wordAt_4 : decode cX3_wordAt 4 = .ok (.iload_n 1, 1) := by decide +kernel
theorem dX3_wordAt_5 : decode cX3_wordAt 5 = .ok (.invokestatic 67, 3) := by decide +kernel
theorem dX3_wordAt_8 : decode cX3_wordAt 8 = .ok (.ireturn, 1) := by decide +kernel
theorem q1_107 : Cond.fieldLink RX3 15 "RhymeLaw$Mending" "row" "[I" ∈ TT := tq1 107 rfl rfl
theorem fg_RX3_15 {p : Program} {l : Launch} {e : Env} {R : Room} {s : State} {m : MethodId} {args : Array Value} {below : List Frame} {meth : Method} {c : Code} {D : va_G} {tys : List (ClassId × FieldType)} {A : Nat → Prop} {nL : Nat} {Q : State → Prop} {cc : ByteArray} {ws : va_W} {L : List (Nat × Value)} {pc : Nat} {stk : List Value} (cx : gX p s m args meth c cc nL RX3 D tys A) {a : Nat} {fs : List Value} {v : Value} (q0 : Nat) (he : ws[q0]? = some (a, .inr (3, fs))) (hv : fs[1]? = some v) (hd : decode cc pc = .ok (.getfield 15, 3)) (kk : gW p l e R s m args below meth c D A nL Q ws L (pc + 3) (v :: stk)) : gW p l e R s m args below meth c D A nL Q ws L pc (.ref a :: stk) :=
  g_get cx (C := RX3) (T := TX3) (N := 2) inT3 rfl 1 (Nat.le_of_ble_eq_true rfl) q1_107 rfl q0 he hv hd kk
def F_X3_wordAt (s_o : S3) (x1 : Int32) : Option (Int32) := (F_X6_at 8 (s3_row s_o) x1).bind fun q_1 => some (q_1)
def w_X3_wordAt (o : Nat → Nat) (cB cI cJ cZ : ClassId) (s_o : S3) : va_W := [(o 0, .inr (3, [.ref (o 1), .ref (o 2)])), (o 1, .inl (cI, 128, .inl (s3_costs s_o))), (o 2, .inl (cI, 8, .inl (s3_row s_o)))]
abbrev rm_X3_wordAt : Room := { frames := 1, cells := 0, slots := 0, locals := 21 }
set_option maxHeartbeats 4000000 in
set_option maxRecDepth 100000 in
theorem c_X3_wordAt (l : Launch) (D : va_G) (cB cI cJ cZ : ClassId) (o : Nat → Nat) (s_o : S3) (x1 : Int32) (r : Int32) (hf : F_X3_wordAt s_o x1 = some r) : gM l D (tyL cB cI cJ cZ) yX3_wordAt cX3_wordAt 2 (some .int) rm_X3_wordAt [.ref (o 0), .int x1] (w_X3_wordAt o cB cI cJ cZ s_o) (some (.int r)) (w_X3_wordAt o cB cI cJ cZ s_o) := by
  refine met_of (by decide) (Nat.le_of_ble_eq_true rfl) ?_
  intro p e s m args below meth c A cx hr hA
  show gW p l e rm_X3_wordAt s m args below meth c D A 2 _ _ [(0, .ref (o 0)), (1, .int x1)] 0 []
  rw [F_X3_wordAt] at hf
  refine g_aln cx 0 dX3_wordAt_0 rfl ?_
  refine fg_RX3_15 cx 0 rfl rfl dX3_wordAt_1 ?_
  refine g_iln cx 1 dX3_wordAt_4 rfl ?_
  refine ob hf (fun q_1 hq_1 hf => ?_)
  refine g_callSiR cx lk_RX3_67 (c_X6_at l D cB cI cJ cZ (o 2) 8 (s3_row s_o) x1 q_1 hq_1) rfl [2] rfl rfl rfl (Nat.le_of_ble_eq_true rfl) ⟨rfl, rfl, Nat.le_of_ble_eq_true rfl, Nat.le_of_ble_eq_true rfl⟩ dX3_wordAt_5 ?_
  exact g_iret (ovf := fun (r : Int32) => (some (.int r))) (wf := fun (r : Int32) => (w_X3_wordAt o cB cI cJ cZ s_o)) cx hA hr hf rfl rfl dX3_wordAt_8
theorem dX3_mend_0 : decode cX3_mend 0 = .ok (.aload_n 1, 1) := by decide +kernel
theorem dX3_mend_1 : decode cX3_mend 1 = .ok (.getfield 18, 3) := by decide +kernel
theorem dX3_mend_4 : decode cX3_mend 4 = .ok (.invokevirtual 24, 3) := by decide +kernel
theorem dX3_mend_7 : decode cX3_mend 7 = .ok (.istore 4, 2) := by decide +kernel
theorem dX3_mend_9 : decode cX3_mend 9 = .ok (.aload_n 1, 1) := by decide +kernel
theorem dX3_mend_10 : decode cX3_mend 10 = .ok (.getfield 30, 3) := by decide +kernel
theorem dX3_mend_13 : decode cX3_mend 13 = .ok (.iload_n 2, 1) := by decide +kernel
theorem dX3_mend_14 : decode cX3_mend 14 = .ok (.iload 4, 2) := by decide +kernel
theorem dX3_mend_16 : decode cX3_mend 16 = .ok (.invokevirtual 34, 3) := by decide +kernel
theorem dX3_mend_19 : decode cX3_mend 19 = .ok (.ifCond .ne 6, 3) := by decide +kernel
theorem dX3_mend_22 : decode cX3_mend 22 = .ok (.bipush (-9), 2) := by decide +kernel
theorem dX3_mend_24 : decode cX3_mend 24 = .ok (.ireturn, 1) := by decide +kernel
theorem dX3_mend_25 : decode cX3_mend 25 = .ok (.iload 4, 2) := by decide +kernel
theorem dX3_mend_27 : decode cX3_mend 27 = .ok (.iconst 1, 1) := by decide +kernel
theorem dX3_mend_28 : decode cX3_mend 28 = .ok (.isub, 1) := by decide +kernel
theorem dX3_mend_29 : decode cX3_mend 29 = .ok (.istore 5, 2) := by decide +kernel
theorem dX3_mend_31 : decode cX3_mend 31 = .ok (.iload 5, 2) := by decide +kernel
theorem dX3_mend_33 : decode cX3_mend 33 = .ok (.ifCond .lt 18, 3) := by decide +kernel
theorem dX3_mend_36 : decode cX3_mend 36 = .ok (.aload_n 0, 1) := by decide +kernel
theorem dX3_mend_37 : decode cX3_mend 37 = .ok (.aload_n 1, 1) := by decide +kernel
theorem dX3_mend_38 : decode cX3_mend 38 = .ok (.iload_n 2, 1) := by decide +kernel
theorem dX3_mend_39 : decode cX3_mend 39 = .ok (.iload_n 3, 1) := by decide +kernel
theorem dX3_mend_40 : decode cX3_mend 40 = .ok (.iload 5, 2) := by decide +kernel
theorem dX3_mend_42 : decode cX3_mend 42 = .ok (.invokevirtual 40, 3) := by decide +kernel
theorem dX3_mend_45 : decode cX3_mend 45 = .ok (.iinc 5 (-1), 3) := by decide +kernel
theorem dX3_mend_48 : decode cX3_mend 48 = .ok (.goto (-17), 3) := by decide +kernel
theorem dX3_mend_51 : decode cX3_mend 51 = .ok (.iconst 0, 1) := by decide +kernel
theorem dX3_mend_52 : decode cX3_mend 52 = .ok (.istore 5, 2) := by decide +kernel
theorem dX3_mend_54 : decode cX3_mend 54 = .ok (.iconst 0, 1) := by decide +kernel
theorem dX3_mend_55 : decode cX3_mend 55 = .ok (.istore 6, 2) := by decide +kernel
theorem dX3_mend_57 : decode cX3_mend 57 = .ok (.iload 6, 2) := by decide +kernel
theorem dX3_mend_59 : decode cX3_mend 59 = .ok (.iload 4, 2) := by decide +kernel
theorem dX3_mend_61 : decode cX3_mend 61 = .ok (.if_icmp .ge 92, 3) := by decide +kernel
theorem dX3_mend_64 : decode cX3_mend 64 = .ok (.aload_n 1, 1) := by decide +kernel
theorem dX3_mend_65 : decode cX3_mend 65 = .ok (.getfield 30, 3) := by decide +kernel
theorem dX3_mend_68 : decode cX3_mend 68 = .ok (.iload_n 2, 1) := by decide +kernel
theorem dX3_mend_69 : decode cX3_mend 69 = .ok (.iload 6, 2) := by decide +kernel
theorem dX3_mend_71 : decode cX3_mend 71 = .ok (.invokevirtual 44, 3) := by decide +kernel
theorem dX3_mend_74 : decode cX3_mend 74 = .ok (.istore 7, 2) := by decide +kernel
theorem dX3_mend_76 : decode cX3_mend 76 = .ok (.aload_n 0, 1) := by decide +kernel
theorem dX3_mend_77 : decode cX3_mend 77 = .ok (.aload_n 1, 1) := by decide +kernel
theorem dX3_mend_78 : decode cX3_mend 78 = .ok (.getfield 48, 3) := by decide +kernel
theorem dX3_mend_81 : decode cX3_mend 81 = .ok (.iload_n 3, 1) := by decide +kernel
theorem dX3_mend_82 : decode cX3_mend 82 = .ok (.iload 6, 2) := by decide +kernel
theorem dX3_mend_84 : decode cX3_mend 84 = .ok (.iload 7, 2) := by decide +kernel
theorem dX3_mend_86 : decode cX3_mend 86 = .ok (.ifCond .ge 7, 3) := by decide +kernel
theorem dX3_mend_89 : decode cX3_mend 89 = .ok (.iconst (-1), 1) := by decide +kernel
theorem dX3_mend_90 : decode cX3_mend 90 = .ok (.goto 9, 3) := by decide +kernel
theorem dX3_mend_93 : decode cX3_mend 93 = .ok (.aload_n 0, 1) := by decide +kernel
theorem dX3_mend_94 : decode cX3_mend 94 = .ok (.iload 7, 2) := by decide +kernel
theorem dX3_mend_96 : decode cX3_mend 96 = .ok (.invokevirtual 52, 3) := by decide +kernel
theorem dX3_mend_99 : decode cX3_mend 99 = .ok (.invokevirtual 56, 3) := by decide +kernel
theorem dX3_mend_102 : decode cX3_mend 102 = .ok (.istore 8, 2) := by decide +kernel
theorem dX3_mend_104 : decode cX3_mend 104 = .ok (.iload 8, 2) := by decide +kernel
theorem dX3_mend_106 : decode cX3_mend 106 = .ok (.ifCond .ge 6, 3) := by decide +kernel
theorem dX3_mend_109 : decode cX3_mend 109 = .ok (.bipush (-9), 2) := by decide +kernel
theorem dX3_mend_111 : decode cX3_mend 111 = .ok (.ireturn, 1) := by decide +kernel
theorem dX3_mend_112 : decode cX3_mend 112 = .ok (.aload_n 0, 1) := by decide +kernel
theorem dX3_mend_113 : decode cX3_mend 113 = .ok (.getfield 15, 3) := by decide +kernel
theorem dX3_mend_116 : decode cX3_mend 116 = .ok (.iload 6, 2) := by decide +kernel
theorem dX3_mend_118 : decode cX3_mend 118 = .ok (.iload 8, 2) := by decide +kernel
theorem dX3_mend_120 : decode cX3_mend 120 = .ok (.invokestatic 60, 3) := by decide +kernel
theorem dX3_mend_123 : decode cX3_mend 123 = .ok (.iload 5, 2) := by decide +kernel
theorem dX3_mend_125 : decode cX3_mend 125 = .ok (.iload 8, 2) := by decide +kernel
theorem dX3_mend_127 : decode cX3_mend 127 = .ok (.aload_n 1, 1) := by decide +kernel
theorem dX3_mend_128 : decode cX3_mend 128 = .ok (.getfield 18, 3) := by decide +kernel
theorem dX3_mend_131 : decode cX3_mend 131 = .ok (.iload 6, 2) := by decide +kernel
theorem dX3_mend_133 : decode cX3_mend 133 = .ok (.invokevirtual 66, 3) := by decide +kernel
theorem dX3_mend_136 : decode cX3_mend 136 = .ok (.if_icmp .ne 7, 3) := by decide +kernel
theorem dX3_mend_139 : decode cX3_mend 139 = .ok (.iconst 0, 1) := by decide +kernel
theorem dX3_mend_140 : decode cX3_mend 140 = .ok (.goto 4, 3) := by decide +kernel
theorem dX3_mend_143 : decode cX3_mend 143 = .ok (.iconst 1, 1) := by decide +kernel
theorem dX3_mend_144 : decode cX3_mend 144 = .ok (.iadd, 1) := by decide +kernel
theorem dX3_mend_145 : decode cX3_mend 145 = .ok (.istore 5, 2) := by decide +kernel
theorem dX3_mend_147 : decode cX3_mend 147 = .ok (.iinc 6 1, 3) := by decide +kernel
theorem dX3_mend_150 : decode cX3_mend 150 = .ok (.goto (-93), 3) := by decide +kernel
theorem dX3_mend_153 : decode cX3_mend 153 = .ok (.iload 5, 2) := by decide +kernel
theorem dX3_mend_155 : decode cX3_mend 155 = .ok (.ireturn, 1) := by decide +kernel
theorem q0_7 : Cond.selects RX3 yX3_weigh yX3_weigh ∈ TT := tq0 7 rfl rfl
theorem q3_229 : Cond.methodLink RX3 34 yX1_pairs ∈ TT := tq3 229 rfl rfl
theorem q3_230 : Cond.instanceMethod yX1_pairs ∈ TT := tq3 230 rfl rfl
theorem q3_231 : Cond.selects RX1 yX1_pairs yX1_pairs ∈ TT := tq3 231 rfl rfl
theorem q3_232 : Cond.code yX1_pairs cX1_pairs 4 (some .boolean) ∈ TT := tq3 232 rfl rfl
theorem q4_2 : Cond.methodLink RX3 40 yX3_weigh ∈ TT := tq4 2 rfl rfl
theorem q4_4 : Cond.instanceMethod yX3_weigh ∈ TT := tq4 4 rfl rfl
theorem q4_5 : Cond.code yX3_weigh cX3_weigh 10 none ∈ TT := tq4 5 rfl rfl
theorem q4_28 : Cond.methodLink RX3 44 yX1_ahead ∈ TT := tq4 28 rfl rfl
theorem q4_29 : Cond.methodLink RX3 52 yX3_wordAt ∈ TT := tq4 29 rfl rfl
theorem q4_30 : Cond.instanceMethod yX3_wordAt ∈ TT := tq4 30 rfl rfl
theorem q4_31 : Cond.selects RX3 yX3_wordAt yX3_wordAt ∈ TT := tq4 31 rfl rfl
theorem q4_32 : Cond.code yX3_wordAt cX3_wordAt 2 (some .int) ∈ TT := tq4 32 rfl rfl
theorem lk_RX3_44 : vlk RX3 44 yX1_ahead cX1_ahead 4 (some .int) 2 := ⟨List.forall_mem_cons.mpr ⟨q4_28, List.forall_mem_cons.mpr ⟨q3_234, List.forall_mem_cons.mpr ⟨q3_235, List.forall_mem_cons.mpr ⟨q1_11, fun _ h => absurd h List.not_mem_nil⟩⟩⟩⟩, q3_236, by decide, by decide, by decide +kernel⟩
theorem lk_RX3_52 : vlk RX3 52 yX3_wordAt cX3_wordAt 2 (some .int) 1 := ⟨List.forall_mem_cons.mpr ⟨q4_29, List.forall_mem_cons.mpr ⟨q4_30, List.forall_mem_cons.mpr ⟨q4_31, List.forall_mem_cons.mpr ⟨q1_6, fun _ h => absurd h List.not_mem_nil⟩⟩⟩⟩, q4_32, by decide, by decide, by decide +kernel⟩
theorem lk_RX3_40 : vlk RX3 40 yX3_weigh cX3_weigh 10 none 4 := ⟨List.forall_mem_cons.mpr ⟨q4_2, List.forall_mem_cons.mpr ⟨q4_4, List.forall_mem_cons.mpr ⟨q0_7, List.forall_mem_cons.mpr ⟨q1_6, fun _ h => absurd h List.not_mem_nil⟩⟩⟩⟩, q4_5, by decide, by decide, by decide +kernel⟩
theorem lk_RX3_34 : vlk RX3 34 yX1_pairs cX1_pairs 4 (some .boolean) 2 := ⟨List.forall_mem_cons.mpr ⟨q3_229, List.forall_mem_cons.mpr ⟨q3_230, List.forall_mem_cons.mpr ⟨q3_231, List.forall_mem_cons.mpr ⟨q1_11, fun _ h => absurd h List.not_mem_nil⟩⟩⟩⟩, q3_232, by decide, by decide, by decide +kernel⟩
def F_X3_mend_b144 (s_a1 : S7) (s_a1_forms : S1) (s_a1_paper : S4) (s_a1_words : S10) (x2 : Int32) (x3 : Int32) (K57 : Int32 → Int32 → Int32 → S3 → Option (Int32 × S3)) (v4 : Int32) (v6 : Int32) (zs_o : S3) (k0 : Int32) (k1 : Int32) : Option (Int32 × S3) := nm (k0 + k1) fun v5_1 => nm (v6 + 1) fun v6_2 => K57 v4 v5_1 v6_2 zs_o
def F_X3_mend_b99 (s_a1 : S7) (s_a1_forms : S1) (s_a1_paper : S4) (s_a1_words : S10) (x2 : Int32) (x3 : Int32) (K57 : Int32 → Int32 → Int32 → S3 → Option (Int32 × S3)) (v4 : Int32) (v5 : Int32) (v6 : Int32) (zs_o : S3) (k2 : Int32) (k3 : Int32) (k4 : Int32) : Option (Int32 × S3) := (F_X3_best s_a1_words zs_o k2 k3 k4).bind fun q_3 => nm q_3 fun v8_4 => (if 0 ≤ v8_4 then (F_X6_set 8 (s3_row zs_o) v6 v8_4).bind fun q_5 => (F_X4_wordAt s_a1_paper v6).bind fun q_6 => (if v8_4 = q_6 then F_X3_mend_b144 s_a1 s_a1_forms s_a1_paper s_a1_words x2 x3 K57 v4 v6 (u3_row zs_o q_5) v5 0 else F_X3_mend_b144 s_a1 s_a1_forms s_a1_paper s_a1_words x2 x3 K57 v4 v6 (u3_row zs_o q_5) v5 1) else some ((-9), zs_o))
def F_X3_mend_b57 (s_a1 : S7) (s_a1_forms : S1) (s_a1_paper : S4) (s_a1_words : S10) (x2 : Int32) (x3 : Int32) : Nat → Int32 → Int32 → Int32 → S3 → Option (Int32 × S3)
  | 0, _, _, _, _ => none
  | n + 1, v4, v5, v6, zs_o => (if v4 ≤ v6 then some (v5, zs_o) else (F_X1_ahead s_a1_forms x2 v6).bind fun q_7 => nm q_7 fun v7_8 => (if 0 ≤ v7_8 then (F_X3_wordAt zs_o v7_8).bind fun q_9 => F_X3_mend_b99 s_a1 s_a1_forms s_a1_paper s_a1_words x2 x3 (F_X3_mend_b57 s_a1 s_a1_forms s_a1_paper s_a1_words x2 x3 n) v4 v5 v6 zs_o x3 v6 q_9 else F_X3_mend_b99 s_a1 s_a1_forms s_a1_paper s_a1_words x2 x3 (F_X3_mend_b57 s_a1 s_a1_forms s_a1_paper s_a1_words x2 x3 n) v4 v5 v6 zs_o x3 v6 (-1)))
def F_X3_mend_b31 (s_a1 : S7) (s_a1_forms : S1) (s_a1_paper : S4) (s_a1_words : S10) (x2 : Int32) (x3 : Int32) : Nat → Int32 → Int32 → S3 → Option (Int32 × S3)
  | 0, _, _, _ => none
  | n + 1, v4, v5, zs_o => (if v5 < 0 then nm 0 fun v5_10 => nm 0 fun v6_11 => F_X3_mend_b57 s_a1 s_a1_forms s_a1_paper s_a1_words x2 x3 fu v4 v5_10 v6_11 zs_o else (F_X3_weigh s_a1 zs_o s_a1_forms s_a1_paper s_a1_words x2 x3 v5).bind fun q_12 => nm (v5 - 1) fun v5_13 => (F_X3_mend_b31 s_a1 s_a1_forms s_a1_paper s_a1_words x2 x3 n) v4 v5_13 q_12)
def F_X3_mend (s_a1 : S7) (s_o : S3) (s_a1_forms : S1) (s_a1_paper : S4) (s_a1_words : S10) (x2 : Int32) (x3 : Int32) : Option (Int32 × S3) := (F_X4_size s_a1_paper).bind fun q_14 => nm q_14 fun v4_15 => (F_X1_pairs s_a1_forms x2 v4_15).bind fun q_16 => (if q_16 = 0 then some ((-9), s_o) else nm (v4_15 - 1) fun v5_17 => F_X3_mend_b31 s_a1 s_a1_forms s_a1_paper s_a1_words x2 x3 fu v4_15 v5_17 s_o)
def w_X3_mend (a1 o a1_forms a1_paper a1_words a1_stock : Nat → Nat) (cB cI cJ cZ : ClassId) (s_a1 : S7) (s_o : S3) (s_a1_forms : S1) (s_a1_paper : S4) (s_a1_words : S10) : va_W := [(a1 0, .inr (5, [.ref (a1_words 0), .ref (a1_forms 0), .ref (a1_paper 0), .ref (a1_stock 0), .ref (a1 1)])), (a1 1, .inl (cI, 8, .inl (s7_metres s_a1))), (o 0, .inr (3, [.ref (o 1), .ref (o 2)])), (o 1, .inl (cI, 128, .inl (s3_costs s_o))), (o 2, .inl (cI, 8, .inl (s3_row s_o))), (a1_forms 0, .inr (1, [.ref (a1_forms 1), .ref (a1_forms 2), .int (s1_size s_a1_forms)])), (a1_forms 1, .inl (cI, 16, .inl (s1_letters s_a1_forms))), (a1_forms 2, .inl (cI, 2, .inl (s1_lengths s_a1_forms))), (a1_paper 0, .inr (4, [.ref (a1_paper 1), .ref (a1_paper 2), .ref (a1_paper 3), .int (s4_most s_a1_paper), .int (s4_size s_a1_paper)])), (a1_paper 1, .inl (cI, 8, .inl (s4_words s_a1_paper))), (a1_paper 2, .inl (cI, 8, .inl (s4_things s_a1_paper))), (a1_paper 3, .inl (cI, 8, .inl (s4_befores s_a1_paper))), (a1_words 0, .inr (8, [.ref (a1_words 1), .ref (a1_words 2), .ref (a1_words 3), .int (s10_size s_a1_words)])), (a1_words 1, .inl (cI, 48, .inl (s10_sounds s_a1_words))), (a1_words 2, .inl (cI, 16, .inl (s10_meanings s_a1_words))), (a1_words 3, .inl (cI, 16, .inl (s10_syllables s_a1_words)))]
abbrev rm_X3_mend : Room := { frames := 5, cells := 0, slots := 0, locals := 122 }
set_option maxHeartbeats 4000000 in
set_option maxRecDepth 100000 in
theorem c_X3_mend (l : Launch) (D : va_G) (cB cI cJ cZ : ClassId) (a1 o a1_forms a1_paper a1_words a1_stock : Nat → Nat) (s_a1 : S7) (s_o : S3) (s_a1_forms : S1) (s_a1_paper : S4) (s_a1_words : S10) (x2 : Int32) (x3 : Int32) (r : Int32 × S3) (hf : F_X3_mend s_a1 s_o s_a1_forms s_a1_paper s_a1_words x2 x3 = some r) : gM l D (tyL cB cI cJ cZ) yX3_mend cX3_mend 9 (some .int) rm_X3_mend [.ref (o 0), .ref (a1 0), .int x2, .int x3] (w_X3_mend a1 o a1_forms a1_paper a1_words a1_stock cB cI cJ cZ s_a1 s_o s_a1_forms s_a1_paper s_a1_words) (some (.int r.1)) (w_X3_mend a1 o a1_forms a1_paper a1_words a1_stock cB cI cJ cZ s_a1 r.2 s_a1_forms s_a1_paper s_a1_words) := by
  refine met_of (by decide) (Nat.le_of_ble_eq_true rfl) ?_
  intro p e s m args below meth c A cx hr hA
  show gW p l e rm_X3_mend s m args below meth c D A 9 _ _ [(0, .ref (o 0)), (1, .ref (a1 0)), (2, .int x2), (3, .int x3)] 0 []
  have h144 : ∀ (K57 : Int32 → Int32 → Int32 → S3 → Option (Int32 × S3)), (∀ (v4 : Int32) (v5 : Int32) (v6 : Int32) (zs_o : S3), K57 v4 v5 v6 zs_o = some r → gW p l e rm_X3_mend s m args below meth c D A 9 (MQ below (QM D (tyL cB cI cJ cZ) (some (.int r.1)) (w_X3_mend a1 o a1_forms a1_paper a1_words a1_stock cB cI cJ cZ s_a1 s_o s_a1_forms s_a1_paper s_a1_words) (w_X3_mend a1 o a1_forms a1_paper a1_words a1_stock cB cI cJ cZ s_a1 r.2 s_a1_forms s_a1_paper s_a1_words) s.heap.size) args s 0 0 A) (w_X3_mend a1 o a1_forms a1_paper a1_words a1_stock cB cI cJ cZ s_a1 zs_o s_a1_forms s_a1_paper s_a1_words) [(0, .ref (o 0)), (1, .ref (a1 0)), (2, .int x2), (3, .int x3), (4, .int v4), (5, .int v5), (6, .int v6)] 57 []) → ∀ (v4 : Int32) (v6 : Int32) (zs_o : S3) (k0 : Int32) (k1 : Int32), F_X3_mend_b144 s_a1 s_a1_forms s_a1_paper s_a1_words x2 x3 K57 v4 v6 zs_o k0 k1 = some r → gW p l e rm_X3_mend s m args below meth c D A 9 (MQ below (QM D (tyL cB cI cJ cZ) (some (.int r.1)) (w_X3_mend a1 o a1_forms a1_paper a1_words a1_stock cB cI cJ cZ s_a1 s_o s_a1_forms s_a1_paper s_a1_words) (w_X3_mend a1 o a1_forms a1_paper a1_words a1_stock cB cI cJ cZ s_a1 r.2 s_a1_forms s_a1_paper s_a1_words) s.heap.size) args s 0 0 A) (w_X3_mend a1 o a1_forms a1_paper a1_words a1_stock cB cI cJ cZ s_a1 zs_o s_a1_forms s_a1_paper s_a1_words) [(0, .ref (o 0)), (1, .ref (a1 0)), (2, .int x2), (3, .int x3), (4, .int v4), (6, .int v6)] 144 [.int k1, .int k0] := by
    intro K57 k57 v4 v6 zs_o k0 k1 hf
    rw [F_X3_mend_b144] at hf
    refine g_iadd cx dX3_mend_144 ?_
    refine g_is cx (L2 := fun v5_1 => [(5, .int v5_1), (0, .ref (o 0)), (1, .ref (a1 0)), (2, .int x2), (3, .int x3), (4, .int v4), (6, .int v6)]) hf dX3_mend_145 (Nat.le_of_ble_eq_true rfl) (fun _ => rfl) (fun v5_1 hf => ?_)
    refine g_inc cx (L2 := fun v6_2 => [(6, .int v6_2), (5, .int v5_1), (0, .ref (o 0)), (1, .ref (a1 0)), (2, .int x2), (3, .int x3), (4, .int v4)]) 6 hf dX3_mend_147 rfl (k_inc1 _) (Nat.le_of_ble_eq_true rfl) (fun _ => rfl) (fun v6_2 hf => ?_)
    refine g_goto (tgt := 57) cx dX3_mend_150 rfl ?_
    refine g_sub [2, 3, 4, 5, 6, 1, 0] rfl ?_
    exact k57 _ _ _ _ hf
  have h99 : ∀ (K57 : Int32 → Int32 → Int32 → S3 → Option (Int32 × S3)), (∀ (v4 : Int32) (v5 : Int32) (v6 : Int32) (zs_o : S3), K57 v4 v5 v6 zs_o = some r → gW p l e rm_X3_mend s m args below meth c D A 9 (MQ below (QM D (tyL cB cI cJ cZ) (some (.int r.1)) (w_X3_mend a1 o a1_forms a1_paper a1_words a1_stock cB cI cJ cZ s_a1 s_o s_a1_forms s_a1_paper s_a1_words) (w_X3_mend a1 o a1_forms a1_paper a1_words a1_stock cB cI cJ cZ s_a1 r.2 s_a1_forms s_a1_paper s_a1_words) s.heap.size) args s 0 0 A) (w_X3_mend a1 o a1_forms a1_paper a1_words a1_stock cB cI cJ cZ s_a1 zs_o s_a1_forms s_a1_paper s_a1_words) [(0, .ref (o 0)), (1, .ref (a1 0)), (2, .int x2), (3, .int x3), (4, .int v4), (5, .int v5), (6, .int v6)] 57 []) → ∀ (v4 : Int32) (v5 : Int32) (v6 : Int32) (zs_o : S3) (k2 : Int32) (k3 : Int32) (k4 : Int32), F_X3_mend_b99 s_a1 s_a1_forms s_a1_paper s_a1_words x2 x3 K57 v4 v5 v6 zs_o k2 k3 k4 = some r → gW p l e rm_X3_mend s m args below meth c D A 9 (MQ below (QM D (tyL cB cI cJ cZ) (some (.int r.1)) (w_X3_mend a1 o a1_forms a1_paper a1_words a1_stock cB cI cJ cZ s_a1 s_o s_a1_forms s_a1_paper s_a1_words) (w_X3_mend a1 o a1_forms a1_paper a1_words a1_stock cB cI cJ cZ s_a1 r.2 s_a1_forms s_a1_paper s_a1_words) s.heap.size) args s 0 0 A) (w_X3_mend a1 o a1_forms a1_paper a1_words a1_stock cB cI cJ cZ s_a1 zs_o s_a1_forms s_a1_paper s_a1_words) [(0, .ref (o 0)), (1, .ref (a1 0)), (2, .int x2), (3, .int x3), (4, .int v4), (5, .int v5), (6, .int v6)] 99 [.int k4, .int k3, .int k2, .ref (a1_words 0), .ref (o 0)] := by
    intro K57 k57 v4 v5 v6 zs_o k2 k3 k4 hf
    rw [F_X3_mend_b99] at hf
    refine ob hf (fun q_3 hq_3 hf => ?_)
    refine g_callViR cx lk_RX3_56 (c_X3_best l D cB cI cJ cZ a1_words o s_a1_words zs_o k2 k3 k4 q_3 hq_3) rfl [12, 13, 14, 15, 2, 3, 4] rfl rfl (ci := 3) (q1 := 4) rfl rfl rfl (Nat.le_of_ble_eq_true rfl) ⟨rfl, rfl, Nat.le_of_ble_eq_true rfl, Nat.le_of_ble_eq_true rfl⟩ dX3_mend_99 ?_
    refine g_is cx (L2 := fun v8_4 => [(8, .int v8_4), (0, .ref (o 0)), (1, .ref (a1 0)), (2, .int x2), (3, .int x3), (4, .int v4), (5, .int v5), (6, .int v6)]) hf dX3_mend_102 (Nat.le_of_ble_eq_true rfl) (fun _ => rfl) (fun v8_4 hf => ?_)
    refine g_il cx 0 dX3_mend_104 rfl ?_
    refine g_if_ge (tgt := 112) cx hf dX3_mend_106 rfl (fun hf => ?_) (fun hf => ?_)
    · refine g_aln cx 1 dX3_mend_112 rfl ?_
      refine fg_RX3_15 cx 2 rfl rfl dX3_mend_113 ?_
      refine g_il cx 7 dX3_mend_116 rfl ?_
      refine g_il cx 0 dX3_mend_118 rfl ?_
      refine ob hf (fun q_5 hq_5 hf => ?_)
      refine g_callSv cx lk_RX3_60 (c_X6_set l D cB cI cJ cZ (o 2) 8 (s3_row zs_o) v6 v8_4 q_5 hq_5) rfl [4] rfl rfl (ws' := (w_X3_mend a1 o a1_forms a1_paper a1_words a1_stock cB cI cJ cZ s_a1 (u3_row zs_o q_5) s_a1_forms s_a1_paper s_a1_words)) rfl rfl rfl (Nat.le_of_ble_eq_true rfl) ⟨rfl, rfl, Nat.le_of_ble_eq_true rfl, Nat.le_of_ble_eq_true rfl⟩ dX3_mend_120 ?_
      refine g_il cx 6 dX3_mend_123 rfl ?_
      refine g_il cx 0 dX3_mend_125 rfl ?_
      refine g_aln cx 2 dX3_mend_127 rfl ?_
      refine fg_RX3_18 cx 0 rfl rfl dX3_mend_128 ?_
      refine g_il cx 7 dX3_mend_131 rfl ?_
      refine ob hf (fun q_6 hq_6 hf => ?_)
      refine g_callViR cx lk_RX3_66 (c_X4_wordAt l D cB cI cJ cZ a1_paper s_a1_paper v6 q_6 hq_6) rfl [8, 9, 10, 11] rfl rfl (ci := 4) (q1 := 0) rfl rfl rfl (Nat.le_of_ble_eq_true rfl) ⟨rfl, rfl, Nat.le_of_ble_eq_true rfl, Nat.le_of_ble_eq_true rfl⟩ dX3_mend_133 ?_
      refine g_ic_ne (tgt := 143) cx hf dX3_mend_136 rfl (fun hf => ?_) (fun hf => ?_)
      · refine g_ic cx dX3_mend_143 k_ic1 ?_
        refine g_sub [1, 2, 3, 4, 5, 7] rfl ?_
        exact h144 _ k57 _ _ _ _ _ hf
      · refine g_ic cx dX3_mend_139 k_ic0 ?_
        refine g_goto (tgt := 144) cx dX3_mend_140 rfl ?_
        refine g_sub [1, 2, 3, 4, 5, 7] rfl ?_
        exact h144 _ k57 _ _ _ _ _ hf
    · refine g_bp cx dX3_mend_109 k_bpm9 ?_
      exact g_iret (ovf := fun (r : Int32 × S3) => (some (.int r.1))) (wf := fun (r : Int32 × S3) => (w_X3_mend a1 o a1_forms a1_paper a1_words a1_stock cB cI cJ cZ s_a1 r.2 s_a1_forms s_a1_paper s_a1_words)) cx hA hr hf rfl rfl dX3_mend_111
  have h57 : ∀ (n : Nat) (v4 : Int32) (v5 : Int32) (v6 : Int32) (zs_o : S3), F_X3_mend_b57 s_a1 s_a1_forms s_a1_paper s_a1_words x2 x3 n v4 v5 v6 zs_o = some r → gW p l e rm_X3_mend s m args below meth c D A 9 (MQ below (QM D (tyL cB cI cJ cZ) (some (.int r.1)) (w_X3_mend a1 o a1_forms a1_paper a1_words a1_stock cB cI cJ cZ s_a1 s_o s_a1_forms s_a1_paper s_a1_words) (w_X3_mend a1 o a1_forms a1_paper a1_words a1_stock cB cI cJ cZ s_a1 r.2 s_a1_forms s_a1_paper s_a1_words) s.heap.size) args s 0 0 A) (w_X3_mend a1 o a1_forms a1_paper a1_words a1_stock cB cI cJ cZ s_a1 zs_o s_a1_forms s_a1_paper s_a1_words) [(0, .ref (o 0)), (1, .ref (a1 0)), (2, .int x2), (3, .int x3), (4, .int v4), (5, .int v5), (6, .int v6)] 57 [] := by
    intro n
    induction n with
    | zero => intro v4 v5 v6 zs_o hf; rw [F_X3_mend_b57] at hf; cases hf
    | succ n ih =>
      intro v4 v5 v6 zs_o hf
      rw [F_X3_mend_b57] at hf
      refine g_il cx 6 dX3_mend_57 rfl ?_
      refine g_il cx 4 dX3_mend_59 rfl ?_
      refine g_ic_ge (tgt := 153) cx hf dX3_mend_61 rfl (fun hf => ?_) (fun hf => ?_)
      · refine g_il cx 5 dX3_mend_153 rfl ?_
        exact g_iret (ovf := fun (r : Int32 × S3) => (some (.int r.1))) (wf := fun (r : Int32 × S3) => (w_X3_mend a1 o a1_forms a1_paper a1_words a1_stock cB cI cJ cZ s_a1 r.2 s_a1_forms s_a1_paper s_a1_words)) cx hA hr hf rfl rfl dX3_mend_155
      · refine g_aln cx 1 dX3_mend_64 rfl ?_
        refine fg_RX3_30 cx 0 rfl rfl dX3_mend_65 ?_
        refine g_iln cx 2 dX3_mend_68 rfl ?_
        refine g_il cx 6 dX3_mend_69 rfl ?_
        refine ob hf (fun q_7 hq_7 hf => ?_)
        refine g_callViR cx lk_RX3_44 (c_X1_ahead l D cB cI cJ cZ a1_forms s_a1_forms x2 v6 q_7 hq_7) rfl [5, 6, 7] rfl rfl (ci := 1) (q1 := 0) rfl rfl rfl (Nat.le_of_ble_eq_true rfl) ⟨rfl, rfl, Nat.le_of_ble_eq_true rfl, Nat.le_of_ble_eq_true rfl⟩ dX3_mend_71 ?_
        refine g_is cx (L2 := fun v7_8 => [(7, .int v7_8), (0, .ref (o 0)), (1, .ref (a1 0)), (2, .int x2), (3, .int x3), (4, .int v4), (5, .int v5), (6, .int v6)]) hf dX3_mend_74 (Nat.le_of_ble_eq_true rfl) (fun _ => rfl) (fun v7_8 hf => ?_)
        refine g_aln cx 1 dX3_mend_76 rfl ?_
        refine g_aln cx 2 dX3_mend_77 rfl ?_
        refine fg_RX3_48 cx 0 rfl rfl dX3_mend_78 ?_
        refine g_iln cx 4 dX3_mend_81 rfl ?_
        refine g_il cx 7 dX3_mend_82 rfl ?_
        refine g_il cx 0 dX3_mend_84 rfl ?_
        refine g_if_ge (tgt := 93) cx hf dX3_mend_86 rfl (fun hf => ?_) (fun hf => ?_)
        · refine g_aln cx 1 dX3_mend_93 rfl ?_
          refine g_il cx 0 dX3_mend_94 rfl ?_
          refine ob hf (fun q_9 hq_9 hf => ?_)
          refine g_callViR cx lk_RX3_52 (c_X3_wordAt l D cB cI cJ cZ o zs_o v7_8 q_9 hq_9) rfl [2, 3, 4] rfl rfl (ci := 3) (q1 := 0) rfl rfl rfl (Nat.le_of_ble_eq_true rfl) ⟨rfl, rfl, Nat.le_of_ble_eq_true rfl, Nat.le_of_ble_eq_true rfl⟩ dX3_mend_96 ?_
          refine g_sub [1, 2, 3, 4, 5, 6, 7] rfl ?_
          exact h99 _ ih _ _ _ _ _ _ _ hf
        · refine g_ic cx dX3_mend_89 k_icm1 ?_
          refine g_goto (tgt := 99) cx dX3_mend_90 rfl ?_
          refine g_sub [1, 2, 3, 4, 5, 6, 7] rfl ?_
          exact h99 _ ih _ _ _ _ _ _ _ hf
  have h31 : ∀ (n : Nat) (v4 : Int32) (v5 : Int32) (zs_o : S3), F_X3_mend_b31 s_a1 s_a1_forms s_a1_paper s_a1_words x2 x3 n v4 v5 zs_o = some r → gW p l e rm_X3_mend s m args below meth c D A 9 (MQ below (QM D (tyL cB cI cJ cZ) (some (.int r.1)) (w_X3_mend a1 o a1_forms a1_paper a1_words a1_stock cB cI cJ cZ s_a1 s_o s_a1_forms s_a1_paper s_a1_words) (w_X3_mend a1 o a1_forms a1_paper a1_words a1_stock cB cI cJ cZ s_a1 r.2 s_a1_forms s_a1_paper s_a1_words) s.heap.size) args s 0 0 A) (w_X3_mend a1 o a1_forms a1_paper a1_words a1_stock cB cI cJ cZ s_a1 zs_o s_a1_forms s_a1_paper s_a1_words) [(0, .ref (o 0)), (1, .ref (a1 0)), (2, .int x2), (3, .int x3), (4, .int v4), (5, .int v5)] 31 [] := by
    intro n
    induction n with
    | zero => intro v4 v5 zs_o hf; rw [F_X3_mend_b31] at hf; cases hf
    | succ n ih =>
      intro v4 v5 zs_o hf
      rw [F_X3_mend_b31] at hf
      refine g_il cx 5 dX3_mend_31 rfl ?_
      refine g_if_lt (tgt := 51) cx hf dX3_mend_33 rfl (fun hf => ?_) (fun hf => ?_)
      · refine g_ic cx dX3_mend_51 k_ic0 ?_
        refine g_is cx (L2 := fun v5_10 => [(5, .int v5_10), (0, .ref (o 0)), (1, .ref (a1 0)), (2, .int x2), (3, .int x3), (4, .int v4)]) hf dX3_mend_52 (Nat.le_of_ble_eq_true rfl) (fun _ => rfl) (fun v5_10 hf => ?_)
        refine g_ic cx dX3_mend_54 k_ic0 ?_
        refine g_is cx (L2 := fun v6_11 => [(6, .int v6_11), (5, .int v5_10), (0, .ref (o 0)), (1, .ref (a1 0)), (2, .int x2), (3, .int x3), (4, .int v4)]) hf dX3_mend_55 (Nat.le_of_ble_eq_true rfl) (fun _ => rfl) (fun v6_11 hf => ?_)
        refine g_sub [2, 3, 4, 5, 6, 1, 0] rfl ?_
        exact h57 fu _ _ _ _ hf
      · refine g_aln cx 0 dX3_mend_36 rfl ?_
        refine g_aln cx 1 dX3_mend_37 rfl ?_
        refine g_iln cx 2 dX3_mend_38 rfl ?_
        refine g_iln cx 3 dX3_mend_39 rfl ?_
        refine g_il cx 5 dX3_mend_40 rfl ?_
        refine ob hf (fun q_12 hq_12 hf => ?_)
        refine g_callVv cx lk_RX3_40 (c_X3_weigh l D cB cI cJ cZ a1 o a1_forms a1_paper a1_words a1_stock s_a1 zs_o s_a1_forms s_a1_paper s_a1_words x2 x3 v5 q_12 hq_12) rfl [0, 1, 2, 3, 4, 5, 6, 7, 8, 9, 10, 11, 12, 13, 14, 15] rfl rfl (ws' := (w_X3_mend a1 o a1_forms a1_paper a1_words a1_stock cB cI cJ cZ s_a1 q_12 s_a1_forms s_a1_paper s_a1_words)) rfl rfl (ci := 3) (q1 := 2) rfl rfl rfl (Nat.le_of_ble_eq_true rfl) ⟨rfl, rfl, Nat.le_of_ble_eq_true rfl, Nat.le_of_ble_eq_true rfl⟩ dX3_mend_42 ?_
        refine g_inc cx (L2 := fun v5_13 => [(5, .int v5_13), (0, .ref (o 0)), (1, .ref (a1 0)), (2, .int x2), (3, .int x3), (4, .int v4)]) 5 hf dX3_mend_45 rfl (k_incm1 _) (Nat.le_of_ble_eq_true rfl) (fun _ => rfl) (fun v5_13 hf => ?_)
        refine g_goto (tgt := 31) cx dX3_mend_48 rfl ?_
        refine g_sub [1, 2, 3, 4, 5, 0] rfl ?_
        exact ih _ _ _ hf
  rw [F_X3_mend] at hf
  refine g_aln cx 1 dX3_mend_0 rfl ?_
  refine fg_RX3_18 cx 0 rfl rfl dX3_mend_1 ?_
  refine ob hf (fun q_14 hq_14 hf => ?_)
  refine g_callViR cx lk_RX3_24 (c_X4_size l D cB cI cJ cZ a1_paper s_a1_paper q_14 hq_14) rfl [8, 9, 10, 11] rfl rfl (ci := 4) (q1 := 0) rfl rfl rfl (Nat.le_of_ble_eq_true rfl) ⟨rfl, rfl, Nat.le_of_ble_eq_true rfl, Nat.le_of_ble_eq_true rfl⟩ dX3_mend_4 ?_
  refine g_is cx (L2 := fun v4_15 => [(4, .int v4_15), (0, .ref (o 0)), (1, .ref (a1 0)), (2, .int x2), (3, .int x3)]) hf dX3_mend_7 (Nat.le_of_ble_eq_true rfl) (fun _ => rfl) (fun v4_15 hf => ?_)
  refine g_aln cx 2 dX3_mend_9 rfl ?_
  refine fg_RX3_30 cx 0 rfl rfl dX3_mend_10 ?_
  refine g_iln cx 3 dX3_mend_13 rfl ?_
  refine g_il cx 0 dX3_mend_14 rfl ?_
  refine ob hf (fun q_16 hq_16 hf => ?_)
  refine g_callViR cx lk_RX3_34 (c_X1_pairs l D cB cI cJ cZ a1_forms s_a1_forms x2 v4_15 q_16 hq_16) rfl [5, 6, 7] rfl rfl (ci := 1) (q1 := 0) rfl rfl rfl (Nat.le_of_ble_eq_true rfl) ⟨rfl, rfl, Nat.le_of_ble_eq_true rfl, Nat.le_of_ble_eq_true rfl⟩ dX3_mend_16 ?_
  refine g_if_ne (tgt := 25) cx hf dX3_mend_19 rfl (fun hf => ?_) (fun hf => ?_)
  · refine g_il cx 0 dX3_mend_25 rfl ?_
    refine g_ic cx dX3_mend_27 k_ic1 ?_
    refine g_isub cx dX3_mend_28 ?_
    refine g_is cx (L2 := fun v5_17 => [(5, .int v5_17), (4, .int v4_15), (0, .ref (o 0)), (1, .ref (a1 0)), (2, .int x2), (3, .int x3)]) hf dX3_mend_29 (Nat.le_of_ble_eq_true rfl) (fun _ => rfl) (fun v5_17 hf => ?_)
    refine g_sub [2, 3, 4, 5, 1, 0] rfl ?_
    exact h31 fu _ _ _ hf
  · refine g_bp cx dX3_mend_22 k_bpm9 ?_
    exact g_iret (ovf := fun (r : Int32 × S3) => (some (.int r.1))) (wf := fun (r : Int32 × S3) => (w_X3_mend a1 o a1_forms a1_paper a1_words a1_stock cB cI cJ cZ s_a1 r.2 s_a1_forms s_a1_paper s_a1_words)) cx hA hr hf rfl rfl dX3_mend_24
end
section
theorem dX2_waysAt_0 : decode cX2_waysAt 0 = .ok (.iload_n 1, 1) := by decide +kernel
theorem dX2_waysAt_1 : decode cX2_waysAt 1 = .ok (.bipush 16, 2) := by decide +kernel
theorem dX2_waysAt_3 : decode cX2_waysAt 3 = .ok (.imul, 1) := by decide +kernel
theorem dX2_waysAt_4 : decode cX2_waysAt 4 = .ok (.iload_n 2, 1) := by decide +kernel
theorem dX2_waysAt_5 : decode cX2_waysAt 5 = .ok (.iadd, 1) := by decide +kernel
theorem dX2_waysAt_6 : decode cX2_waysAt 6 = .ok (.istore_n 3, 1) := by decide +kernel
theorem dX2_waysAt_7 : decode cX2_waysAt 7 = .ok (.iload_n 3, 1) := by decide +kernel
theorem dX2_waysAt_8 : decode cX2_waysAt 8 = .ok (.ifCond .lt 21, 3) := by decide +kernel
theorem dX2_waysAt_11 : decode cX2_waysAt 11 = .ok (.iload_n 3, 1) := by decide +kernel
theorem dX2_waysAt_12 : decode cX2_waysAt 12 = .ok (.aload_n 0, 1) := by decide +kernel
theorem dX2_waysAt_13 : decode cX2_waysAt 13 = .ok (.getfield 9, 3) := by decide +kernel
theorem dX2_waysAt_16 : decode cX2_waysAt 16 = .ok (.arraylength, 1) := by decide +kernel
theorem dX2_waysAt_17 : decode cX2_waysAt 17 = .ok (.if_icmp .ge 12, 3) := by decide +kernel
theorem dX2_waysAt_20 : decode cX2_waysAt 20 = .ok (.aload_n 0, 1) := by decide +kernel
theorem dX2_waysAt_21 : decode cX2_waysAt 21 = .ok (.getfield 9, 3) := by decide +kernel
theorem dX2_waysAt_24 : decode cX2_waysAt 24 = .ok (.iload_n 3, 1) := by decide +kernel
theorem dX2_waysAt_25 : decode cX2_waysAt 25 = .ok (.laload, 1) := by decide +kernel
theorem dX2_waysAt_26 : decode cX2_waysAt 26 = .ok (.goto 4, 3) := by decide +kernel
theorem dX2_waysAt_29 : decode cX2_waysAt 29 = .ok (.lconst 0, 1) := by decide +kernel
theorem dX2_waysAt_30 : decode cX2_waysAt 30 = .ok (.lreturn, 1) := by decide +kernel
theorem q1_119 : Cond.fieldLink RX2 9 "RhymeLaw$Guess" "ways" "[J" ∈ TT := tq1 119 rfl rfl
theorem fg_RX2_9 {p : Program} {l : Launch} {e : Env} {R : Room} {s : State} {m : MethodId} {args : Array Value} {below : List Frame} {meth : Method} {c : Code} {D : va_G} {tys : List (ClassId × FieldType)} {A : Nat → Prop} {nL : Nat} {Q : State → Prop} {cc : ByteArray} {ws : va_W} {L : List (Nat × Value)} {pc : Nat} {stk : List Value} (cx : gX p s m args meth c cc nL RX2 D tys A) {a : Nat} {fs : List Value} {v : Value} (q0 : Nat) (he : ws[q0]? = some (a, .inr (2, fs))) (hv : fs[0]? = some v) (hd : decode cc pc = .ok (.getfield 9, 3)) (kk : gW p l e R s m args below meth c D A nL Q ws L (pc + 3) (v :: stk)) : gW p l e R s m args below meth c D A nL Q ws L pc (.ref a :: stk) :=
  g_get cx (C := RX2) (T := TX2) (N := 2) inT2 rfl 0 (Nat.le_of_ble_eq_true rfl) q1_119 rfl q0 he hv hd kk
def F_X2_waysAt (s_o : S2) (x1 : Int32) (x2 : Int32) : Option (Int64) := nm ((x1 * 16) + x2) fun v3_1 => (if v3_1 < 0 then some (0) else (if 128 ≤ v3_1 then some (0) else (agetL 128 (s2_ways s_o) v3_1).bind fun e_2 => some (e_2)))
def w_X2_waysAt (o : Nat → Nat) (cB cI cJ cZ : ClassId) (s_o : S2) : va_W := [(o 0, .inr (2, [.ref (o 1), .ref (o 2)])), (o 1, .inl (cJ, 128, .inr (.inl (s2_ways s_o)))), (o 2, .inl (cI, 8, .inl (s2_possible s_o)))]
abbrev rm_X2_waysAt : Room := { frames := 0, cells := 0, slots := 0, locals := 0 }
set_option maxHeartbeats 4000000 in
set_option maxRecDepth 100000 in
theorem c_X2_waysAt (l : Launch) (D : va_G) (cB cI cJ cZ : ClassId) (o : Nat → Nat) (s_o : S2) (x1 : Int32) (x2 : Int32) (r : Int64) (hf : F_X2_waysAt s_o x1 x2 = some r) : gM l D (tyL cB cI cJ cZ) yX2_waysAt cX2_waysAt 4 (some .long) rm_X2_waysAt [.ref (o 0), .int x1, .int x2] (w_X2_waysAt o cB cI cJ cZ s_o) (some (.long r)) (w_X2_waysAt o cB cI cJ cZ s_o) := by
  refine met_of (by decide) (Nat.le_of_ble_eq_true rfl) ?_
  intro p e s m args below meth c A cx hr hA
  show gW p l e rm_X2_waysAt s m args below meth c D A 4 _ _ [(0, .ref (o 0)), (1, .int x1), (2, .int x2)] 0 []
  rw [F_X2_waysAt] at hf
  refine g_iln cx 1 dX2_waysAt_0 rfl ?_
  refine g_bp cx dX2_waysAt_1 k_bp16 ?_
  refine g_imul cx dX2_waysAt_3 ?_
  refine g_iln cx 2 dX2_waysAt_4 rfl ?_
  refine g_iadd cx dX2_waysAt_5 ?_
  refine g_isn cx (L2 := fun v3_1 => [(3, .int v3_1), (0, .ref (o 0)), (1, .int x1), (2, .int x2)]) hf dX2_waysAt_6 (Nat.le_of_ble_eq_true rfl) (fun _ => rfl) (fun v3_1 hf => ?_)
  refine g_iln cx 0 dX2_waysAt_7 rfl ?_
  refine g_if_lt (tgt := 29) cx hf dX2_waysAt_8 rfl (fun hf => ?_) (fun hf => ?_)
  · refine g_lc cx dX2_waysAt_29 rfl ?_
    exact g_lret (ovf := fun (r : Int64) => (some (.long r))) (wf := fun (r : Int64) => (w_X2_waysAt o cB cI cJ cZ s_o)) cx hA hr hf rfl rfl dX2_waysAt_30
  · refine g_iln cx 0 dX2_waysAt_11 rfl ?_
    refine g_aln cx 1 dX2_waysAt_12 rfl ?_
    refine fg_RX2_9 cx 0 rfl rfl dX2_waysAt_13 ?_
    refine g_alen cx 1 2 rfl rfl rfl dX2_waysAt_16 ?_
    refine g_ic_ge (tgt := 29) cx hf dX2_waysAt_17 rfl (fun hf => ?_) (fun hf => ?_)
    · refine g_lc cx dX2_waysAt_29 rfl ?_
      exact g_lret (ovf := fun (r : Int64) => (some (.long r))) (wf := fun (r : Int64) => (w_X2_waysAt o cB cI cJ cZ s_o)) cx hA hr hf rfl rfl dX2_waysAt_30
    · refine g_aln cx 1 dX2_waysAt_20 rfl ?_
      refine fg_RX2_9 cx 0 rfl rfl dX2_waysAt_21 ?_
      refine g_iln cx 0 dX2_waysAt_24 rfl ?_
      refine g_lald cx 1 2 hf rfl rfl dX2_waysAt_25 (fun e_2 hf => ?_)
      refine g_goto (tgt := 30) cx dX2_waysAt_26 rfl ?_
      exact g_lret (ovf := fun (r : Int64) => (some (.long r))) (wf := fun (r : Int64) => (w_X2_waysAt o cB cI cJ cZ s_o)) cx hA hr hf rfl rfl dX2_waysAt_30
theorem dX2_sum_0 : decode cX2_sum 0 = .ok (.lconst 0, 1) := by decide +kernel
theorem dX2_sum_1 : decode cX2_sum 1 = .ok (.lstore 5, 2) := by decide +kernel
theorem dX2_sum_3 : decode cX2_sum 3 = .ok (.iconst 0, 1) := by decide +kernel
theorem dX2_sum_4 : decode cX2_sum 4 = .ok (.istore 7, 2) := by decide +kernel
theorem dX2_sum_6 : decode cX2_sum 6 = .ok (.iload 7, 2) := by decide +kernel
theorem dX2_sum_8 : decode cX2_sum 8 = .ok (.aload_n 1, 1) := by decide +kernel
theorem dX2_sum_9 : decode cX2_sum 9 = .ok (.invokevirtual 57, 3) := by decide +kernel
theorem dX2_sum_12 : decode cX2_sum 12 = .ok (.if_icmp .ge 38, 3) := by decide +kernel
theorem dX2_sum_15 : decode cX2_sum 15 = .ok (.iload 4, 2) := by decide +kernel
theorem dX2_sum_17 : decode cX2_sum 17 = .ok (.ifCond .lt 15, 3) := by decide +kernel
theorem dX2_sum_20 : decode cX2_sum 20 = .ok (.aload_n 1, 1) := by decide +kernel
theorem dX2_sum_21 : decode cX2_sum 21 = .ok (.iload_n 2, 1) := by decide +kernel
theorem dX2_sum_22 : decode cX2_sum 22 = .ok (.iload 4, 2) := by decide +kernel
theorem dX2_sum_24 : decode cX2_sum 24 = .ok (.iload 7, 2) := by decide +kernel
theorem dX2_sum_26 : decode cX2_sum 26 = .ok (.invokevirtual 105, 3) := by decide +kernel
theorem dX2_sum_29 : decode cX2_sum 29 = .ok (.ifCond .eq 15, 3) := by decide +kernel
theorem dX2_sum_32 : decode cX2_sum 32 = .ok (.lload 5, 2) := by decide +kernel
theorem dX2_sum_34 : decode cX2_sum 34 = .ok (.aload_n 0, 1) := by decide +kernel
theorem dX2_sum_35 : decode cX2_sum 35 = .ok (.iload_n 3, 1) := by decide +kernel
theorem dX2_sum_36 : decode cX2_sum 36 = .ok (.iload 7, 2) := by decide +kernel
theorem dX2_sum_38 : decode cX2_sum 38 = .ok (.invokevirtual 60, 3) := by decide +kernel
theorem dX2_sum_41 : decode cX2_sum 41 = .ok (.ladd, 1) := by decide +kernel
theorem dX2_sum_42 : decode cX2_sum 42 = .ok (.lstore 5, 2) := by decide +kernel
theorem dX2_sum_44 : decode cX2_sum 44 = .ok (.iinc 7 1, 3) := by decide +kernel
theorem dX2_sum_47 : decode cX2_sum 47 = .ok (.goto (-41), 3) := by decide +kernel
theorem dX2_sum_50 : decode cX2_sum 50 = .ok (.lload 5, 2) := by decide +kernel
theorem dX2_sum_52 : decode cX2_sum 52 = .ok (.lreturn, 1) := by decide +kernel
theorem q0_17 : Cond.selects RX2 yX2_waysAt yX2_waysAt ∈ TT := tq0 17 rfl rfl
theorem q1_7 : Cond.initialized RX2 ∈ TT := tq1 7 rfl rfl
theorem q4_130 : Cond.methodLink RX2 57 yX10_size ∈ TT := tq4 130 rfl rfl
theorem q4_138 : Cond.methodLink RX2 105 yX10_rhyme ∈ TT := tq4 138 rfl rfl
theorem q4_139 : Cond.methodLink RX2 60 yX2_waysAt ∈ TT := tq4 139 rfl rfl
theorem q4_141 : Cond.instanceMethod yX2_waysAt ∈ TT := tq4 141 rfl rfl
theorem q4_142 : Cond.code yX2_waysAt cX2_waysAt 4 (some .long) ∈ TT := tq4 142 rfl rfl
theorem lk_RX2_60 : vlk RX2 60 yX2_waysAt cX2_waysAt 4 (some .long) 2 := ⟨List.forall_mem_cons.mpr ⟨q4_139, List.forall_mem_cons.mpr ⟨q4_141, List.forall_mem_cons.mpr ⟨q0_17, List.forall_mem_cons.mpr ⟨q1_7, fun _ h => absurd h List.not_mem_nil⟩⟩⟩⟩, q4_142, by decide, by decide, by decide +kernel⟩
theorem lk_RX2_57 : vlk RX2 57 yX10_size cX10_size 1 (some .int) 0 := ⟨List.forall_mem_cons.mpr ⟨q4_130, List.forall_mem_cons.mpr ⟨q2_227, List.forall_mem_cons.mpr ⟨q2_228, List.forall_mem_cons.mpr ⟨q1_10, fun _ h => absurd h List.not_mem_nil⟩⟩⟩⟩, q2_229, by decide, by decide, by decide +kernel⟩
theorem lk_RX2_105 : vlk RX2 105 yX10_rhyme cX10_rhyme 4 (some .boolean) 3 := ⟨List.forall_mem_cons.mpr ⟨q4_138, List.forall_mem_cons.mpr ⟨q3_136, List.forall_mem_cons.mpr ⟨q3_137, List.forall_mem_cons.mpr ⟨q1_10, fun _ h => absurd h List.not_mem_nil⟩⟩⟩⟩, q3_138, by decide, by decide, by decide +kernel⟩
def F_X2_sum_b44 (s_a1 : S10) (s_o : S2) (x2 : Int32) (x3 : Int32) (x4 : Int32) (K6 : Int64 → Int32 → Option (Int64)) (v5 : Int64) (v7 : Int32) : Option (Int64) := nm (v7 + 1) fun v7_1 => K6 v5 v7_1
def F_X2_sum_b32 (s_a1 : S10) (s_o : S2) (x2 : Int32) (x3 : Int32) (x4 : Int32) (K6 : Int64 → Int32 → Option (Int64)) (v5 : Int64) (v7 : Int32) : Option (Int64) := (F_X2_waysAt s_o x3 v7).bind fun q_2 => nm (v5 + q_2) fun v5_3 => F_X2_sum_b44 s_a1 s_o x2 x3 x4 K6 v5_3 v7
def F_X2_sum_b6 (s_a1 : S10) (s_o : S2) (x2 : Int32) (x3 : Int32) (x4 : Int32) : Nat → Int64 → Int32 → Option (Int64)
  | 0, _, _ => none
  | n + 1, v5, v7 => (F_X10_size s_a1).bind fun q_4 => (if q_4 ≤ v7 then some (v5) else (if x4 < 0 then F_X2_sum_b32 s_a1 s_o x2 x3 x4 (F_X2_sum_b6 s_a1 s_o x2 x3 x4 n) v5 v7 else (F_X10_rhyme s_a1 x2 x4 v7).bind fun q_5 => (if q_5 = 0 then F_X2_sum_b44 s_a1 s_o x2 x3 x4 (F_X2_sum_b6 s_a1 s_o x2 x3 x4 n) v5 v7 else F_X2_sum_b32 s_a1 s_o x2 x3 x4 (F_X2_sum_b6 s_a1 s_o x2 x3 x4 n) v5 v7)))
def F_X2_sum (s_a1 : S10) (s_o : S2) (x2 : Int32) (x3 : Int32) (x4 : Int32) : Option (Int64) := nm 0 fun v5_6 => nm 0 fun v7_7 => F_X2_sum_b6 s_a1 s_o x2 x3 x4 fu v5_6 v7_7
def w_X2_sum (a1 o : Nat → Nat) (cB cI cJ cZ : ClassId) (s_a1 : S10) (s_o : S2) : va_W := [(a1 0, .inr (8, [.ref (a1 1), .ref (a1 2), .ref (a1 3), .int (s10_size s_a1)])), (a1 1, .inl (cI, 48, .inl (s10_sounds s_a1))), (a1 2, .inl (cI, 16, .inl (s10_meanings s_a1))), (a1 3, .inl (cI, 16, .inl (s10_syllables s_a1))), (o 0, .inr (2, [.ref (o 1), .ref (o 2)])), (o 1, .inl (cJ, 128, .inr (.inl (s2_ways s_o)))), (o 2, .inl (cI, 8, .inl (s2_possible s_o)))]
abbrev rm_X2_sum : Room := { frames := 3, cells := 0, slots := 0, locals := 66 }
set_option maxHeartbeats 4000000 in
set_option maxRecDepth 100000 in
theorem c_X2_sum (l : Launch) (D : va_G) (cB cI cJ cZ : ClassId) (a1 o : Nat → Nat) (s_a1 : S10) (s_o : S2) (x2 : Int32) (x3 : Int32) (x4 : Int32) (r : Int64) (hf : F_X2_sum s_a1 s_o x2 x3 x4 = some r) : gM l D (tyL cB cI cJ cZ) yX2_sum cX2_sum 8 (some .long) rm_X2_sum [.ref (o 0), .ref (a1 0), .int x2, .int x3, .int x4] (w_X2_sum a1 o cB cI cJ cZ s_a1 s_o) (some (.long r)) (w_X2_sum a1 o cB cI cJ cZ s_a1 s_o) := by
  refine met_of (by decide) (Nat.le_of_ble_eq_true rfl) ?_
  intro p e s m args below meth c A cx hr hA
  show gW p l e rm_X2_sum s m args below meth c D A 8 _ _ [(0, .ref (o 0)), (1, .ref (a1 0)), (2, .int x2), (3, .int x3), (4, .int x4)] 0 []
  have h44 : ∀ (K6 : Int64 → Int32 → Option (Int64)), (∀ (v5 : Int64) (v7 : Int32), K6 v5 v7 = some r → gW p l e rm_X2_sum s m args below meth c D A 8 (MQ below (QM D (tyL cB cI cJ cZ) (some (.long r)) (w_X2_sum a1 o cB cI cJ cZ s_a1 s_o) (w_X2_sum a1 o cB cI cJ cZ s_a1 s_o) s.heap.size) args s 0 0 A) (w_X2_sum a1 o cB cI cJ cZ s_a1 s_o) [(0, .ref (o 0)), (1, .ref (a1 0)), (2, .int x2), (3, .int x3), (4, .int x4), (5, .long v5), (7, .int v7)] 6 []) → ∀ (v5 : Int64) (v7 : Int32), F_X2_sum_b44 s_a1 s_o x2 x3 x4 K6 v5 v7 = some r → gW p l e rm_X2_sum s m args below meth c D A 8 (MQ below (QM D (tyL cB cI cJ cZ) (some (.long r)) (w_X2_sum a1 o cB cI cJ cZ s_a1 s_o) (w_X2_sum a1 o cB cI cJ cZ s_a1 s_o) s.heap.size) args s 0 0 A) (w_X2_sum a1 o cB cI cJ cZ s_a1 s_o) [(0, .ref (o 0)), (1, .ref (a1 0)), (2, .int x2), (3, .int x3), (4, .int x4), (5, .long v5), (7, .int v7)] 44 [] := by
    intro K6 k6 v5 v7 hf
    rw [F_X2_sum_b44] at hf
    refine g_inc cx (L2 := fun v7_1 => [(7, .int v7_1), (0, .ref (o 0)), (1, .ref (a1 0)), (2, .int x2), (3, .int x3), (4, .int x4), (5, .long v5)]) 6 hf dX2_sum_44 rfl (k_inc1 _) (Nat.le_of_ble_eq_true rfl) (fun _ => rfl) (fun v7_1 hf => ?_)
    refine g_goto (tgt := 6) cx dX2_sum_47 rfl ?_
    refine g_sub [1, 2, 3, 4, 5, 6, 0] rfl ?_
    exact k6 _ _ hf
  have h32 : ∀ (K6 : Int64 → Int32 → Option (Int64)), (∀ (v5 : Int64) (v7 : Int32), K6 v5 v7 = some r → gW p l e rm_X2_sum s m args below meth c D A 8 (MQ below (QM D (tyL cB cI cJ cZ) (some (.long r)) (w_X2_sum a1 o cB cI cJ cZ s_a1 s_o) (w_X2_sum a1 o cB cI cJ cZ s_a1 s_o) s.heap.size) args s 0 0 A) (w_X2_sum a1 o cB cI cJ cZ s_a1 s_o) [(0, .ref (o 0)), (1, .ref (a1 0)), (2, .int x2), (3, .int x3), (4, .int x4), (5, .long v5), (7, .int v7)] 6 []) → ∀ (v5 : Int64) (v7 : Int32), F_X2_sum_b32 s_a1 s_o x2 x3 x4 K6 v5 v7 = some r → gW p l e rm_X2_sum s m args below meth c D A 8 (MQ below (QM D (tyL cB cI cJ cZ) (some (.long r)) (w_X2_sum a1 o cB cI cJ cZ s_a1 s_o) (w_X2_sum a1 o cB cI cJ cZ s_a1 s_o) s.heap.size) args s 0 0 A) (w_X2_sum a1 o cB cI cJ cZ s_a1 s_o) [(0, .ref (o 0)), (1, .ref (a1 0)), (2, .int x2), (3, .int x3), (4, .int x4), (5, .long v5), (7, .int v7)] 32 [] := by
    intro K6 k6 v5 v7 hf
    rw [F_X2_sum_b32] at hf
    refine g_ll cx 5 dX2_sum_32 rfl ?_
    refine g_aln cx 0 dX2_sum_34 rfl ?_
    refine g_iln cx 3 dX2_sum_35 rfl ?_
    refine g_il cx 6 dX2_sum_36 rfl ?_
    refine ob hf (fun q_2 hq_2 hf => ?_)
    refine g_callVlR cx lk_RX2_60 (c_X2_waysAt l D cB cI cJ cZ o s_o x3 v7 q_2 hq_2) rfl [4, 5, 6] rfl rfl (ci := 2) (q1 := 0) rfl rfl rfl (Nat.le_of_ble_eq_true rfl) ⟨rfl, rfl, Nat.le_of_ble_eq_true rfl, Nat.le_of_ble_eq_true rfl⟩ dX2_sum_38 ?_
    refine g_ladd cx dX2_sum_41 ?_
    refine g_ls cx (L2 := fun v5_3 => [(5, .long v5_3), (0, .ref (o 0)), (1, .ref (a1 0)), (2, .int x2), (3, .int x3), (4, .int x4), (7, .int v7)]) hf dX2_sum_42 (Nat.le_of_ble_eq_true rfl) (fun _ => rfl) (fun v5_3 hf => ?_)
    refine g_sub [1, 2, 3, 4, 5, 0, 6] rfl ?_
    exact h44 _ k6 _ _ hf
  have h6 : ∀ (n : Nat) (v5 : Int64) (v7 : Int32), F_X2_sum_b6 s_a1 s_o x2 x3 x4 n v5 v7 = some r → gW p l e rm_X2_sum s m args below meth c D A 8 (MQ below (QM D (tyL cB cI cJ cZ) (some (.long r)) (w_X2_sum a1 o cB cI cJ cZ s_a1 s_o) (w_X2_sum a1 o cB cI cJ cZ s_a1 s_o) s.heap.size) args s 0 0 A) (w_X2_sum a1 o cB cI cJ cZ s_a1 s_o) [(0, .ref (o 0)), (1, .ref (a1 0)), (2, .int x2), (3, .int x3), (4, .int x4), (5, .long v5), (7, .int v7)] 6 [] := by
    intro n
    induction n with
    | zero => intro v5 v7 hf; rw [F_X2_sum_b6] at hf; cases hf
    | succ n ih =>
      intro v5 v7 hf
      rw [F_X2_sum_b6] at hf
      refine g_il cx 6 dX2_sum_6 rfl ?_
      refine g_aln cx 1 dX2_sum_8 rfl ?_
      refine ob hf (fun q_4 hq_4 hf => ?_)
      refine g_callViR cx lk_RX2_57 (c_X10_size l D cB cI cJ cZ a1 s_a1 q_4 hq_4) rfl [0, 1, 2, 3] rfl rfl (ci := 8) (q1 := 0) rfl rfl rfl (Nat.le_of_ble_eq_true rfl) ⟨rfl, rfl, Nat.le_of_ble_eq_true rfl, Nat.le_of_ble_eq_true rfl⟩ dX2_sum_9 ?_
      refine g_ic_ge (tgt := 50) cx hf dX2_sum_12 rfl (fun hf => ?_) (fun hf => ?_)
      · refine g_ll cx 5 dX2_sum_50 rfl ?_
        exact g_lret (ovf := fun (r : Int64) => (some (.long r))) (wf := fun (r : Int64) => (w_X2_sum a1 o cB cI cJ cZ s_a1 s_o)) cx hA hr hf rfl rfl dX2_sum_52
      · refine g_il cx 4 dX2_sum_15 rfl ?_
        refine g_if_lt (tgt := 32) cx hf dX2_sum_17 rfl (fun hf => ?_) (fun hf => ?_)
        · exact h32 _ ih _ _ hf
        · refine g_aln cx 1 dX2_sum_20 rfl ?_
          refine g_iln cx 2 dX2_sum_21 rfl ?_
          refine g_il cx 4 dX2_sum_22 rfl ?_
          refine g_il cx 6 dX2_sum_24 rfl ?_
          refine ob hf (fun q_5 hq_5 hf => ?_)
          refine g_callViR cx lk_RX2_105 (c_X10_rhyme l D cB cI cJ cZ a1 s_a1 x2 x4 v7 q_5 hq_5) rfl [0, 1, 2, 3] rfl rfl (ci := 8) (q1 := 0) rfl rfl rfl (Nat.le_of_ble_eq_true rfl) ⟨rfl, rfl, Nat.le_of_ble_eq_true rfl, Nat.le_of_ble_eq_true rfl⟩ dX2_sum_26 ?_
          refine g_if_eq (tgt := 44) cx hf dX2_sum_29 rfl (fun hf => ?_) (fun hf => ?_)
          · exact h44 _ ih _ _ hf
          · exact h32 _ ih _ _ hf
  rw [F_X2_sum] at hf
  refine g_lc cx dX2_sum_0 rfl ?_
  refine g_ls cx (L2 := fun v5_6 => [(5, .long v5_6), (0, .ref (o 0)), (1, .ref (a1 0)), (2, .int x2), (3, .int x3), (4, .int x4)]) hf dX2_sum_1 (Nat.le_of_ble_eq_true rfl) (fun _ => rfl) (fun v5_6 hf => ?_)
  refine g_ic cx dX2_sum_3 k_ic0 ?_
  refine g_is cx (L2 := fun v7_7 => [(7, .int v7_7), (5, .long v5_6), (0, .ref (o 0)), (1, .ref (a1 0)), (2, .int x2), (3, .int x3), (4, .int x4)]) hf dX2_sum_4 (Nat.le_of_ble_eq_true rfl) (fun _ => rfl) (fun v7_7 hf => ?_)
  refine g_sub [2, 3, 4, 5, 6, 1, 0] rfl ?_
  exact h6 fu _ _ hf
theorem dX2_setWays_0 : decode cX2_setWays 0 = .ok (.iload_n 1, 1) := by decide +kernel
theorem dX2_setWays_1 : decode cX2_setWays 1 = .ok (.bipush 16, 2) := by decide +kernel
theorem dX2_setWays_3 : decode cX2_setWays 3 = .ok (.imul, 1) := by decide +kernel
theorem dX2_setWays_4 : decode cX2_setWays 4 = .ok (.iload_n 2, 1) := by decide +kernel
theorem dX2_setWays_5 : decode cX2_setWays 5 = .ok (.iadd, 1) := by decide +kernel
theorem dX2_setWays_6 : decode cX2_setWays 6 = .ok (.istore 5, 2) := by decide +kernel
theorem dX2_setWays_8 : decode cX2_setWays 8 = .ok (.iload 5, 2) := by decide +kernel
theorem dX2_setWays_10 : decode cX2_setWays 10 = .ok (.ifCond .lt 21, 3) := by decide +kernel
theorem dX2_setWays_13 : decode cX2_setWays 13 = .ok (.iload 5, 2) := by decide +kernel
theorem dX2_setWays_15 : decode cX2_setWays 15 = .ok (.aload_n 0, 1) := by decide +kernel
theorem dX2_setWays_16 : decode cX2_setWays 16 = .ok (.getfield 9, 3) := by decide +kernel
theorem dX2_setWays_19 : decode cX2_setWays 19 = .ok (.arraylength, 1) := by decide +kernel
theorem dX2_setWays_20 : decode cX2_setWays 20 = .ok (.if_icmp .ge 11, 3) := by decide +kernel
theorem dX2_setWays_23 : decode cX2_setWays 23 = .ok (.aload_n 0, 1) := by decide +kernel
theorem dX2_setWays_24 : decode cX2_setWays 24 = .ok (.getfield 9, 3) := by decide +kernel
theorem dX2_setWays_27 : decode cX2_setWays 27 = .ok (.iload 5, 2) := by decide +kernel
theorem dX2_setWays_29 : decode cX2_setWays 29 = .ok (.lload_n 3, 1) := by decide +kernel
theorem dX2_setWays_30 : decode cX2_setWays 30 = .ok (.lastore, 1) := by decide +kernel
theorem dX2_setWays_31 : decode cX2_setWays 31 = .ok (.return_, 1) := by decide +kernel


def F_X2_setWays (s_o : S2) (x1 : Int32) (x2 : Int32) (x3 : Int64) : Option (S2) := nm ((x1 * 16) + x2) fun v5_1 => (if v5_1 < 0 then some (s_o) else (if 128 ≤ v5_1 then some (s_o) else (asetL 128 (s2_ways s_o) v5_1 x3).bind fun f_2 => nm (u2_ways s_o f_2) fun s_o_3 => some (s_o_3)))
def w_X2_setWays (o : Nat → Nat) (cB cI cJ cZ : ClassId) (s_o : S2) : va_W := [(o 0, .inr (2, [.ref (o 1), .ref (o 2)])), (o 1, .inl (cJ, 128, .inr (.inl (s2_ways s_o)))), (o 2, .inl (cI, 8, .inl (s2_possible s_o)))]
abbrev rm_X2_setWays : Room := { frames := 0, cells := 0, slots := 0, locals := 0 }
set_option maxHeartbeats 4000000 in
set_option maxRecDepth 100000 in
theorem c_X2_setWays (l : Launch) (D : va_G) (cB cI cJ cZ : ClassId) (o : Nat → Nat) (s_o : S2) (x1 : Int32) (x2 : Int32) (x3 : Int64) (r : S2) (hf : F_X2_setWays s_o x1 x2 x3 = some r) : gM l D (tyL cB cI cJ cZ) yX2_setWays cX2_setWays 6 none rm_X2_setWays [.ref (o 0), .int x1, .int x2, .long x3] (w_X2_setWays o cB cI cJ cZ s_o) none (w_X2_setWays o cB cI cJ cZ r) := by
  refine met_of (by decide) (Nat.le_of_ble_eq_true rfl) ?_
  intro p e s m args below meth c A cx hr hA
  show gW p l e rm_X2_setWays s m args below meth c D A 6 _ _ [(0, .ref (o 0)), (1, .int x1), (2, .int x2), (3, .long x3)] 0 []
  rw [F_X2_setWays] at hf
  refine g_iln cx 1 dX2_setWays_0 rfl ?_
  refine g_bp cx dX2_setWays_1 k_bp16 ?_
  refine g_imul cx dX2_setWays_3 ?_
  refine g_iln cx 2 dX2_setWays_4 rfl ?_
  refine g_iadd cx dX2_setWays_5 ?_
  refine g_is cx (L2 := fun v5_1 => [(5, .int v5_1), (0, .ref (o 0)), (1, .int x1), (2, .int x2), (3, .long x3)]) hf dX2_setWays_6 (Nat.le_of_ble_eq_true rfl) (fun _ => rfl) (fun v5_1 hf => ?_)
  refine g_il cx 0 dX2_setWays_8 rfl ?_
  refine g_if_lt (tgt := 31) cx hf dX2_setWays_10 rfl (fun hf => ?_) (fun hf => ?_)
  · exact g_vret (ovf := fun (r : S2) => none) (wf := fun (r : S2) => (w_X2_setWays o cB cI cJ cZ r)) cx hA hr hf rfl rfl dX2_setWays_31
  · refine g_il cx 0 dX2_setWays_13 rfl ?_
    refine g_aln cx 1 dX2_setWays_15 rfl ?_
    refine fg_RX2_9 cx 0 rfl rfl dX2_setWays_16 ?_
    refine g_alen cx 1 2 rfl rfl rfl dX2_setWays_19 ?_
    refine g_ic_ge (tgt := 31) cx hf dX2_setWays_20 rfl (fun hf => ?_) (fun hf => ?_)
    · exact g_vret (ovf := fun (r : S2) => none) (wf := fun (r : S2) => (w_X2_setWays o cB cI cJ cZ r)) cx hA hr hf rfl rfl dX2_setWays_31
    · refine g_aln cx 1 dX2_setWays_23 rfl ?_
      refine fg_RX2_9 cx 0 rfl rfl dX2_setWays_24 ?_
      refine g_il cx 0 dX2_setWays_27 rfl ?_
      refine g_lln cx 4 dX2_setWays_29 rfl ?_
      refine g_last cx 1 2 (ws' := fun f_2 => (w_X2_setWays o cB cI cJ cZ (u2_ways s_o f_2))) hf rfl rfl (fun _ => rfl) dX2_setWays_30 (fun f_2 hf => ?_)
      refine g_nm (w := fun s_o_3 => (w_X2_setWays o cB cI cJ cZ s_o_3)) hf (fun s_o_3 hf => ?_)
      exact g_vret (ovf := fun (r : S2) => none) (wf := fun (r : S2) => (w_X2_setWays o cB cI cJ cZ r)) cx hA hr hf rfl rfl dX2_setWays_31
theorem dX2_weigh_0 : decode cX2_weigh 0 = .ok (.aload_n 1, 1) := by decide +kernel
theorem dX2_weigh_1 : decode cX2_weigh 1 = .ok (.getfield 31, 3) := by decide +kernel
theorem dX2_weigh_4 : decode cX2_weigh 4 = .ok (.iload_n 2, 1) := by decide +kernel
theorem dX2_weigh_5 : decode cX2_weigh 5 = .ok (.iload 4, 2) := by decide +kernel
theorem dX2_weigh_7 : decode cX2_weigh 7 = .ok (.aload_n 1, 1) := by decide +kernel
theorem dX2_weigh_8 : decode cX2_weigh 8 = .ok (.getfield 19, 3) := by decide +kernel
theorem dX2_weigh_11 : decode cX2_weigh 11 = .ok (.invokevirtual 25, 3) := by decide +kernel
theorem dX2_weigh_14 : decode cX2_weigh 14 = .ok (.invokevirtual 84, 3) := by decide +kernel
theorem dX2_weigh_17 : decode cX2_weigh 17 = .ok (.istore 6, 2) := by decide +kernel
theorem dX2_weigh_19 : decode cX2_weigh 19 = .ok (.aload_n 1, 1) := by decide +kernel
theorem dX2_weigh_20 : decode cX2_weigh 20 = .ok (.getfield 31, 3) := by decide +kernel
theorem dX2_weigh_23 : decode cX2_weigh 23 = .ok (.iload_n 2, 1) := by decide +kernel
theorem dX2_weigh_24 : decode cX2_weigh 24 = .ok (.iload 4, 2) := by decide +kernel
theorem dX2_weigh_26 : decode cX2_weigh 26 = .ok (.invokevirtual 88, 3) := by decide +kernel
theorem dX2_weigh_29 : decode cX2_weigh 29 = .ok (.istore 7, 2) := by decide +kernel
theorem dX2_weigh_31 : decode cX2_weigh 31 = .ok (.iconst 0, 1) := by decide +kernel
theorem dX2_weigh_32 : decode cX2_weigh 32 = .ok (.istore 8, 2) := by decide +kernel
theorem dX2_weigh_34 : decode cX2_weigh 34 = .ok (.iload 8, 2) := by decide +kernel
theorem dX2_weigh_36 : decode cX2_weigh 36 = .ok (.aload_n 1, 1) := by decide +kernel
theorem dX2_weigh_37 : decode cX2_weigh 37 = .ok (.getfield 49, 3) := by decide +kernel
theorem dX2_weigh_40 : decode cX2_weigh 40 = .ok (.invokevirtual 57, 3) := by decide +kernel
theorem dX2_weigh_43 : decode cX2_weigh 43 = .ok (.if_icmp .ge 85, 3) := by decide +kernel
theorem dX2_weigh_46 : decode cX2_weigh 46 = .ok (.lconst 0, 1) := by decide +kernel
theorem dX2_weigh_47 : decode cX2_weigh 47 = .ok (.lstore 9, 2) := by decide +kernel
theorem dX2_weigh_49 : decode cX2_weigh 49 = .ok (.iload 5, 2) := by decide +kernel
theorem dX2_weigh_51 : decode cX2_weigh 51 = .ok (.ifCond .ne 17, 3) := by decide +kernel
theorem dX2_weigh_54 : decode cX2_weigh 54 = .ok (.iload 8, 2) := by decide +kernel
theorem dX2_weigh_56 : decode cX2_weigh 56 = .ok (.aload_n 1, 1) := by decide +kernel
theorem dX2_weigh_57 : decode cX2_weigh 57 = .ok (.getfield 19, 3) := by decide +kernel
theorem dX2_weigh_60 : decode cX2_weigh 60 = .ok (.iload 4, 2) := by decide +kernel
theorem dX2_weigh_62 : decode cX2_weigh 62 = .ok (.invokevirtual 91, 3) := by decide +kernel
theorem dX2_weigh_65 : decode cX2_weigh 65 = .ok (.if_icmp .ne 47, 3) := by decide +kernel
theorem dX2_weigh_68 : decode cX2_weigh 68 = .ok (.aload_n 1, 1) := by decide +kernel
theorem dX2_weigh_69 : decode cX2_weigh 69 = .ok (.iload 7, 2) := by decide +kernel
theorem dX2_weigh_71 : decode cX2_weigh 71 = .ok (.iload 8, 2) := by decide +kernel
theorem dX2_weigh_73 : decode cX2_weigh 73 = .ok (.aload_n 1, 1) := by decide +kernel
theorem dX2_weigh_74 : decode cX2_weigh 74 = .ok (.getfield 19, 3) := by decide +kernel
theorem dX2_weigh_77 : decode cX2_weigh 77 = .ok (.iload 4, 2) := by decide +kernel
theorem dX2_weigh_79 : decode cX2_weigh 79 = .ok (.invokevirtual 94, 3) := by decide +kernel
theorem dX2_weigh_82 : decode cX2_weigh 82 = .ok (.invokevirtual 97, 3) := by decide +kernel
theorem dX2_weigh_85 : decode cX2_weigh 85 = .ok (.ifCond .eq 27, 3) := by decide +kernel
theorem dX2_weigh_88 : decode cX2_weigh 88 = .ok (.iload 6, 2) := by decide +kernel
theorem dX2_weigh_90 : decode cX2_weigh 90 = .ok (.ifCond .ge 7, 3) := by decide +kernel
theorem dX2_weigh_93 : decode cX2_weigh 93 = .ok (.lconst 1, 1) := by decide +kernel
theorem dX2_weigh_94 : decode cX2_weigh 94 = .ok (.goto 16, 3) := by decide +kernel
theorem dX2_weigh_97 : decode cX2_weigh 97 = .ok (.aload_n 0, 1) := by decide +kernel
theorem dX2_weigh_98 : decode cX2_weigh 98 = .ok (.aload_n 1, 1) := by decide +kernel
theorem dX2_weigh_99 : decode cX2_weigh 99 = .ok (.getfield 49, 3) := by decide +kernel
theorem dX2_weigh_102 : decode cX2_weigh 102 = .ok (.iload_n 3, 1) := by decide +kernel
theorem dX2_weigh_103 : decode cX2_weigh 103 = .ok (.iload 6, 2) := by decide +kernel
theorem dX2_weigh_105 : decode cX2_weigh 105 = .ok (.iload 8, 2) := by decide +kernel
theorem dX2_weigh_107 : decode cX2_weigh 107 = .ok (.invokevirtual 53, 3) := by decide +kernel
theorem dX2_weigh_110 : decode cX2_weigh 110 = .ok (.lstore 9, 2) := by decide +kernel
theorem dX2_weigh_112 : decode cX2_weigh 112 = .ok (.aload_n 0, 1) := by decide +kernel
theorem dX2_weigh_113 : decode cX2_weigh 113 = .ok (.iload 4, 2) := by decide +kernel
theorem dX2_weigh_115 : decode cX2_weigh 115 = .ok (.iload 8, 2) := by decide +kernel
theorem dX2_weigh_117 : decode cX2_weigh 117 = .ok (.lload 9, 2) := by decide +kernel
theorem dX2_weigh_119 : decode cX2_weigh 119 = .ok (.invokevirtual 101, 3) := by decide +kernel
theorem dX2_weigh_122 : decode cX2_weigh 122 = .ok (.iinc 8 1, 3) := by decide +kernel
theorem dX2_weigh_125 : decode cX2_weigh 125 = .ok (.goto (-91), 3) := by decide +kernel
theorem dX2_weigh_128 : decode cX2_weigh 128 = .ok (.return_, 1) := by decide +kernel
theorem q0_16 : Cond.selects RX2 yX2_sum yX2_sum ∈ TT := tq0 16 rfl rfl
theorem q0_18 : Cond.selects RX2 yX2_setWays yX2_setWays ∈ TT := tq0 18 rfl rfl
theorem q1_199 : Cond.fieldLink RX2 49 "RhymeLaw$Tale" "words" "LRhymeLaw$Words;" ∈ TT := tq1 199 rfl rfl
theorem q1_206 : Cond.fieldLink RX2 31 "RhymeLaw$Tale" "forms" "LRhymeLaw$Forms;" ∈ TT := tq1 206 rfl rfl
theorem q1_213 : Cond.fieldLink RX2 19 "RhymeLaw$Tale" "paper" "LRhymeLaw$Paper;" ∈ TT := tq1 213 rfl rfl
theorem q4_122 : Cond.methodLink RX2 25 yX4_size ∈ TT := tq4 122 rfl rfl
theorem q4_128 : Cond.methodLink RX2 84 yX1_behind ∈ TT := tq4 128 rfl rfl
theorem q4_129 : Cond.methodLink RX2 88 yX1_letter ∈ TT := tq4 129 rfl rfl
theorem q4_131 : Cond.methodLink RX2 91 yX4_wordAt ∈ TT := tq4 131 rfl rfl
theorem q4_132 : Cond.methodLink RX2 94 yX4_beforeAt ∈ TT := tq4 132 rfl rfl
theorem q4_133 : Cond.methodLink RX2 97 yX7_fits ∈ TT := tq4 133 rfl rfl
theorem q4_134 : Cond.methodLink RX2 53 yX2_sum ∈ TT := tq4 134 rfl rfl
theorem q4_136 : Cond.instanceMethod yX2_sum ∈ TT := tq4 136 rfl rfl
theorem q4_137 : Cond.code yX2_sum cX2_sum 8 (some .long) ∈ TT := tq4 137 rfl rfl
theorem q4_143 : Cond.methodLink RX2 101 yX2_setWays ∈ TT := tq4 143 rfl rfl
theorem q4_145 : Cond.instanceMethod yX2_setWays ∈ TT := tq4 145 rfl rfl
theorem q4_146 : Cond.code yX2_setWays cX2_setWays 6 none ∈ TT := tq4 146 rfl rfl
theorem lk_RX2_101 : vlk RX2 101 yX2_setWays cX2_setWays 6 none 3 := ⟨List.forall_mem_cons.mpr ⟨q4_143, List.forall_mem_cons.mpr ⟨q4_145, List.forall_mem_cons.mpr ⟨q0_18, List.forall_mem_cons.mpr ⟨q1_7, fun _ h => absurd h List.not_mem_nil⟩⟩⟩⟩, q4_146, by decide, by decide, by decide +kernel⟩
theorem fg_RX2_19 {p : Program} {l : Launch} {e : Env} {R : Room} {s : State} {m : MethodId} {args : Array Value} {below : List Frame} {meth : Method} {c : Code} {D : va_G} {tys : List (ClassId × FieldType)} {A : Nat → Prop} {nL : Nat} {Q : State → Prop} {cc : ByteArray} {ws : va_W} {L : List (Nat × Value)} {pc : Nat} {stk : List Value} (cx : gX p s m args meth c cc nL RX2 D tys A) {a : Nat} {fs : List Value} {v : Value} (q0 : Nat) (he : ws[q0]? = some (a, .inr (5, fs))) (hv : fs[2]? = some v) (hd : decode cc pc = .ok (.getfield 19, 3)) (kk : gW p l e R s m args below meth c D A nL Q ws L (pc + 3) (v :: stk)) : gW p l e R s m args below meth c D A nL Q ws L pc (.ref a :: stk) :=
  g_get cx (C := RX7) (T := TX7) (N := 5) inT7 rfl 2 (Nat.le_of_ble_eq_true rfl) q1_213 rfl q0 he hv hd kk
theorem lk_RX2_94 : vlk RX2 94 yX4_beforeAt cX4_beforeAt 2 (some .int) 1 := ⟨List.forall_mem_cons.mpr ⟨q4_132, List.forall_mem_cons.mpr ⟨q3_9, List.forall_mem_cons.mpr ⟨q3_10, List.forall_mem_cons.mpr ⟨q1_4, fun _ h => absurd h List.not_mem_nil⟩⟩⟩⟩, q3_11, by decide, by decide, by decide +kernel⟩
theorem lk_RX2_97 : vlk RX2 97 yX7_fits cX7_fits 5 (some .boolean) 3 := ⟨List.forall_mem_cons.mpr ⟨q4_133, List.forall_mem_cons.mpr ⟨q3_130, List.forall_mem_cons.mpr ⟨q3_131, List.forall_mem_cons.mpr ⟨q1_9, fun _ h => absurd h List.not_mem_nil⟩⟩⟩⟩, q3_132, by decide, by decide, by decide +kernel⟩
theorem fg_RX2_49 {p : Program} {l : Launch} {e : Env} {R : Room} {s : State} {m : MethodId} {args : Array Value} {below : List Frame} {meth : Method} {c : Code} {D : va_G} {tys : List (ClassId × FieldType)} {A : Nat → Prop} {nL : Nat} {Q : State → Prop} {cc : ByteArray} {ws : va_W} {L : List (Nat × Value)} {pc : Nat} {stk : List Value} (cx : gX p s m args meth c cc nL RX2 D tys A) {a : Nat} {fs : List Value} {v : Value} (q0 : Nat) (he : ws[q0]? = some (a, .inr (5, fs))) (hv : fs[0]? = some v) (hd : decode cc pc = .ok (.getfield 49, 3)) (kk : gW p l e R s m args below meth c D A nL Q ws L (pc + 3) (v :: stk)) : gW p l e R s m args below meth c D A nL Q ws L pc (.ref a :: stk) :=
  g_get cx (C := RX7) (T := TX7) (N := 5) inT7 rfl 0 (Nat.le_of_ble_eq_true rfl) q1_199 rfl q0 he hv hd kk
theorem lk_RX2_53 : vlk RX2 53 yX2_sum cX2_sum 8 (some .long) 4 := ⟨List.forall_mem_cons.mpr ⟨q4_134, List.forall_mem_cons.mpr ⟨q4_136, List.forall_mem_cons.mpr ⟨q0_16, List.forall_mem_cons.mpr ⟨q1_7, fun _ h => absurd h List.not_mem_nil⟩⟩⟩⟩, q4_137, by decide, by decide, by decide +kernel⟩
theorem lk_RX2_91 : vlk RX2 91 yX4_wordAt cX4_wordAt 2 (some .int) 1 := ⟨List.forall_mem_cons.mpr ⟨q4_131, List.forall_mem_cons.mpr ⟨q3_0, List.forall_mem_cons.mpr ⟨q3_1, List.forall_mem_cons.mpr ⟨q1_4, fun _ h => absurd h List.not_mem_nil⟩⟩⟩⟩, q3_2, by decide, by decide, by decide +kernel⟩
theorem fg_RX2_31 {p : Program} {l : Launch} {e : Env} {R : Room} {s : State} {m : MethodId} {args : Array Value} {below : List Frame} {meth : Method} {c : Code} {D : va_G} {tys : List (ClassId × FieldType)} {A : Nat → Prop} {nL : Nat} {Q : State → Prop} {cc : ByteArray} {ws : va_W} {L : List (Nat × Value)} {pc : Nat} {stk : List Value} (cx : gX p s m args meth c cc nL RX2 D tys A) {a : Nat} {fs : List Value} {v : Value} (q0 : Nat) (he : ws[q0]? = some (a, .inr (5, fs))) (hv : fs[1]? = some v) (hd : decode cc pc = .ok (.getfield 31, 3)) (kk : gW p l e R s m args below meth c D A nL Q ws L (pc + 3) (v :: stk)) : gW p l e R s m args below meth c D A nL Q ws L pc (.ref a :: stk) :=
  g_get cx (C := RX7) (T := TX7) (N := 5) inT7 rfl 1 (Nat.le_of_ble_eq_true rfl) q1_206 rfl q0 he hv hd kk
theorem lk_RX2_25 : vlk RX2 25 yX4_size cX4_size 1 (some .int) 0 := ⟨List.forall_mem_cons.mpr ⟨q4_122, List.forall_mem_cons.mpr ⟨q2_231, List.forall_mem_cons.mpr ⟨q2_232, List.forall_mem_cons.mpr ⟨q1_4, fun _ h => absurd h List.not_mem_nil⟩⟩⟩⟩, q2_233, by decide, by decide, by decide +kernel⟩
theorem lk_RX2_84 : vlk RX2 84 yX1_behind cX1_behind 5 (some .int) 3 := ⟨List.forall_mem_cons.mpr ⟨q4_128, List.forall_mem_cons.mpr ⟨q3_239, List.forall_mem_cons.mpr ⟨q4_0, List.forall_mem_cons.mpr ⟨q1_11, fun _ h => absurd h List.not_mem_nil⟩⟩⟩⟩, q4_1, by decide, by decide, by decide +kernel⟩
theorem lk_RX2_88 : vlk RX2 88 yX1_letter cX1_letter 4 (some .int) 2 := ⟨List.forall_mem_cons.mpr ⟨q4_129, List.forall_mem_cons.mpr ⟨q3_53, List.forall_mem_cons.mpr ⟨q3_54, List.forall_mem_cons.mpr ⟨q1_11, fun _ h => absurd h List.not_mem_nil⟩⟩⟩⟩, q3_55, by decide, by decide, by decide +kernel⟩
def F_X2_weigh_b112 (s_a1 : S7) (s_a1_forms : S1) (s_a1_paper : S4) (s_a1_words : S10) (x2 : Int32) (x3 : Int32) (x4 : Int32) (x5 : Int32) (K34 : Int32 → Int32 → Int32 → S2 → Option (S2)) (v6 : Int32) (v7 : Int32) (v8 : Int32) (v9 : Int64) (zs_o : S2) : Option (S2) := (F_X2_setWays zs_o x4 v8 v9).bind fun q_1 => nm (v8 + 1) fun v8_2 => K34 v6 v7 v8_2 q_1
def F_X2_weigh_b110 (s_a1 : S7) (s_a1_forms : S1) (s_a1_paper : S4) (s_a1_words : S10) (x2 : Int32) (x3 : Int32) (x4 : Int32) (x5 : Int32) (K34 : Int32 → Int32 → Int32 → S2 → Option (S2)) (v6 : Int32) (v7 : Int32) (v8 : Int32) (zs_o : S2) (k0 : Int64) : Option (S2) := nm k0 fun v9_3 => F_X2_weigh_b112 s_a1 s_a1_forms s_a1_paper s_a1_words x2 x3 x4 x5 K34 v6 v7 v8 v9_3 zs_o
def F_X2_weigh_b68 (s_a1 : S7) (s_a1_forms : S1) (s_a1_paper : S4) (s_a1_words : S10) (x2 : Int32) (x3 : Int32) (x4 : Int32) (x5 : Int32) (K34 : Int32 → Int32 → Int32 → S2 → Option (S2)) (v6 : Int32) (v7 : Int32) (v8 : Int32) (v9 : Int64) (zs_o : S2) : Option (S2) := (F_X4_beforeAt s_a1_paper x4).bind fun q_4 => (F_X7_fits s_a1 s_a1_words v7 v8 q_4).bind fun q_5 => (if q_5 = 0 then F_X2_weigh_b112 s_a1 s_a1_forms s_a1_paper s_a1_words x2 x3 x4 x5 K34 v6 v7 v8 v9 zs_o else (if 0 ≤ v6 then (F_X2_sum s_a1_words zs_o x3 v6 v8).bind fun q_6 => F_X2_weigh_b110 s_a1 s_a1_forms s_a1_paper s_a1_words x2 x3 x4 x5 K34 v6 v7 v8 zs_o q_6 else F_X2_weigh_b110 s_a1 s_a1_forms s_a1_paper s_a1_words x2 x3 x4 x5 K34 v6 v7 v8 zs_o 1))
def F_X2_weigh_b34 (s_a1 : S7) (s_a1_forms : S1) (s_a1_paper : S4) (s_a1_words : S10) (x2 : Int32) (x3 : Int32) (x4 : Int32) (x5 : Int32) : Nat → Int32 → Int32 → Int32 → S2 → Option (S2)
  | 0, _, _, _, _ => none
  | n + 1, v6, v7, v8, zs_o => (F_X10_size s_a1_words).bind fun q_7 => (if q_7 ≤ v8 then some (zs_o) else nm 0 fun v9_8 => (if x5 = 0 then (F_X4_wordAt s_a1_paper x4).bind fun q_9 => (if v8 = q_9 then F_X2_weigh_b68 s_a1 s_a1_forms s_a1_paper s_a1_words x2 x3 x4 x5 (F_X2_weigh_b34 s_a1 s_a1_forms s_a1_paper s_a1_words x2 x3 x4 x5 n) v6 v7 v8 v9_8 zs_o else F_X2_weigh_b112 s_a1 s_a1_forms s_a1_paper s_a1_words x2 x3 x4 x5 (F_X2_weigh_b34 s_a1 s_a1_forms s_a1_paper s_a1_words x2 x3 x4 x5 n) v6 v7 v8 v9_8 zs_o) else F_X2_weigh_b68 s_a1 s_a1_forms s_a1_paper s_a1_words x2 x3 x4 x5 (F_X2_weigh_b34 s_a1 s_a1_forms s_a1_paper s_a1_words x2 x3 x4 x5 n) v6 v7 v8 v9_8 zs_o))
def F_X2_weigh (s_a1 : S7) (s_o : S2) (s_a1_forms : S1) (s_a1_paper : S4) (s_a1_words : S10) (x2 : Int32) (x3 : Int32) (x4 : Int32) (x5 : Int32) : Option (S2) := (F_X4_size s_a1_paper).bind fun q_10 => (F_X1_behind s_a1_forms x2 x4 q_10).bind fun q_11 => nm q_11 fun v6_12 => (F_X1_letter s_a1_forms x2 x4).bind fun q_13 => nm q_13 fun v7_14 => nm 0 fun v8_15 => F_X2_weigh_b34 s_a1 s_a1_forms s_a1_paper s_a1_words x2 x3 x4 x5 fu v6_12 v7_14 v8_15 s_o
def w_X2_weigh (a1 o a1_forms a1_paper a1_words a1_stock : Nat → Nat) (cB cI cJ cZ : ClassId) (s_a1 : S7) (s_o : S2) (s_a1_forms : S1) (s_a1_paper : S4) (s_a1_words : S10) : va_W := [(a1 0, .inr (5, [.ref (a1_words 0), .ref (a1_forms 0), .ref (a1_paper 0), .ref (a1_stock 0), .ref (a1 1)])), (a1 1, .inl (cI, 8, .inl (s7_metres s_a1))), (o 0, .inr (2, [.ref (o 1), .ref (o 2)])), (o 1, .inl (cJ, 128, .inr (.inl (s2_ways s_o)))), (o 2, .inl (cI, 8, .inl (s2_possible s_o))), (a1_forms 0, .inr (1, [.ref (a1_forms 1), .ref (a1_forms 2), .int (s1_size s_a1_forms)])), (a1_forms 1, .inl (cI, 16, .inl (s1_letters s_a1_forms))), (a1_forms 2, .inl (cI, 2, .inl (s1_lengths s_a1_forms))), (a1_paper 0, .inr (4, [.ref (a1_paper 1), .ref (a1_paper 2), .ref (a1_paper 3), .int (s4_most s_a1_paper), .int (s4_size s_a1_paper)])), (a1_paper 1, .inl (cI, 8, .inl (s4_words s_a1_paper))), (a1_paper 2, .inl (cI, 8, .inl (s4_things s_a1_paper))), (a1_paper 3, .inl (cI, 8, .inl (s4_befores s_a1_paper))), (a1_words 0, .inr (8, [.ref (a1_words 1), .ref (a1_words 2), .ref (a1_words 3), .int (s10_size s_a1_words)])), (a1_words 1, .inl (cI, 48, .inl (s10_sounds s_a1_words))), (a1_words 2, .inl (cI, 16, .inl (s10_meanings s_a1_words))), (a1_words 3, .inl (cI, 16, .inl (s10_syllables s_a1_words)))]
abbrev rm_X2_weigh : Room := { frames := 4, cells := 0, slots := 0, locals := 93 }
set_option maxHeartbeats 4000000 in
set_option maxRecDepth 100000 in
theorem c_X2_weigh (l : Launch) (D : va_G) (cB cI cJ cZ : ClassId) (a1 o a1_forms a1_paper a1_words a1_stock : Nat → Nat) (s_a1 : S7) (s_o : S2) (s_a1_forms : S1) (s_a1_paper : S4) (s_a1_words : S10) (x2 : Int32) (x3 : Int32) (x4 : Int32) (x5 : Int32) (r : S2) (hf : F_X2_weigh s_a1 s_o s_a1_forms s_a1_paper s_a1_words x2 x3 x4 x5 = some r) : gM l D (tyL cB cI cJ cZ) yX2_weigh cX2_weigh 11 none rm_X2_weigh [.ref (o 0), .ref (a1 0), .int x2, .int x3, .int x4, .int x5] (w_X2_weigh a1 o a1_forms a1_paper a1_words a1_stock cB cI cJ cZ s_a1 s_o s_a1_forms s_a1_paper s_a1_words) none (w_X2_weigh a1 o a1_forms a1_paper a1_words a1_stock cB cI cJ cZ s_a1 r s_a1_forms s_a1_paper s_a1_words) := by
  refine met_of (by decide) (Nat.le_of_ble_eq_true rfl) ?_
  intro p e s m args below meth c A cx hr hA
  show gW p l e rm_X2_weigh s m args below meth c D A 11 _ _ [(0, .ref (o 0)), (1, .ref (a1 0)), (2, .int x2), (3, .int x3), (4, .int x4), (5, .int x5)] 0 []
  have h112 : ∀ (K34 : Int32 → Int32 → Int32 → S2 → Option (S2)), (∀ (v6 : Int32) (v7 : Int32) (v8 : Int32) (zs_o : S2), K34 v6 v7 v8 zs_o = some r → gW p l e rm_X2_weigh s m args below meth c D A 11 (MQ below (QM D (tyL cB cI cJ cZ) none (w_X2_weigh a1 o a1_forms a1_paper a1_words a1_stock cB cI cJ cZ s_a1 s_o s_a1_forms s_a1_paper s_a1_words) (w_X2_weigh a1 o a1_forms a1_paper a1_words a1_stock cB cI cJ cZ s_a1 r s_a1_forms s_a1_paper s_a1_words) s.heap.size) args s 0 0 A) (w_X2_weigh a1 o a1_forms a1_paper a1_words a1_stock cB cI cJ cZ s_a1 zs_o s_a1_forms s_a1_paper s_a1_words) [(0, .ref (o 0)), (1, .ref (a1 0)), (3, .int x3), (4, .int x4), (5, .int x5), (6, .int v6), (7, .int v7), (8, .int v8)] 34 []) → ∀ (v6 : Int32) (v7 : Int32) (v8 : Int32) (v9 : Int64) (zs_o : S2), F_X2_weigh_b112 s_a1 s_a1_forms s_a1_paper s_a1_words x2 x3 x4 x5 K34 v6 v7 v8 v9 zs_o = some r → gW p l e rm_X2_weigh s m args below meth c D A 11 (MQ below (QM D (tyL cB cI cJ cZ) none (w_X2_weigh a1 o a1_forms a1_paper a1_words a1_stock cB cI cJ cZ s_a1 s_o s_a1_forms s_a1_paper s_a1_words) (w_X2_weigh a1 o a1_forms a1_paper a1_words a1_stock cB cI cJ cZ s_a1 r s_a1_forms s_a1_paper s_a1_words) s.heap.size) args s 0 0 A) (w_X2_weigh a1 o a1_forms a1_paper a1_words a1_stock cB cI cJ cZ s_a1 zs_o s_a1_forms s_a1_paper s_a1_words) [(0, .ref (o 0)), (1, .ref (a1 0)), (3, .int x3), (4, .int x4), (5, .int x5), (6, .int v6), (7, .int v7), (8, .int v8), (9, .long v9)] 112 [] := by
    intro K34 k34 v6 v7 v8 v9 zs_o hf
    rw [F_X2_weigh_b112] at hf
    refine g_aln cx 0 dX2_weigh_112 rfl ?_
    refine g_il cx 3 dX2_weigh_113 rfl ?_
    refine g_il cx 7 dX2_weigh_115 rfl ?_
    refine g_ll cx 8 dX2_weigh_117 rfl ?_
    refine ob hf (fun q_1 hq_1 hf => ?_)
    refine g_callVv cx lk_RX2_101 (c_X2_setWays l D cB cI cJ cZ o zs_o x4 v8 v9 q_1 hq_1) rfl [2, 3, 4] rfl rfl (ws' := (w_X2_weigh a1 o a1_forms a1_paper a1_words a1_stock cB cI cJ cZ s_a1 q_1 s_a1_forms s_a1_paper s_a1_words)) rfl rfl (ci := 2) (q1 := 0) rfl rfl rfl (Nat.le_of_ble_eq_true rfl) ⟨rfl, rfl, Nat.le_of_ble_eq_true rfl, Nat.le_of_ble_eq_true rfl⟩ dX2_weigh_119 ?_
    refine g_inc cx (L2 := fun v8_2 => [(8, .int v8_2), (0, .ref (o 0)), (1, .ref (a1 0)), (3, .int x3), (4, .int x4), (5, .int x5), (6, .int v6), (7, .int v7), (9, .long v9)]) 7 hf dX2_weigh_122 rfl (k_inc1 _) (Nat.le_of_ble_eq_true rfl) (fun _ => rfl) (fun v8_2 hf => ?_)
    refine g_goto (tgt := 34) cx dX2_weigh_125 rfl ?_
    refine g_sub [1, 2, 3, 4, 5, 6, 7, 0] rfl ?_
    exact k34 _ _ _ _ hf
  have h110 : ∀ (K34 : Int32 → Int32 → Int32 → S2 → Option (S2)), (∀ (v6 : Int32) (v7 : Int32) (v8 : Int32) (zs_o : S2), K34 v6 v7 v8 zs_o = some r → gW p l e rm_X2_weigh s m args below meth c D A 11 (MQ below (QM D (tyL cB cI cJ cZ) none (w_X2_weigh a1 o a1_forms a1_paper a1_words a1_stock cB cI cJ cZ s_a1 s_o s_a1_forms s_a1_paper s_a1_words) (w_X2_weigh a1 o a1_forms a1_paper a1_words a1_stock cB cI cJ cZ s_a1 r s_a1_forms s_a1_paper s_a1_words) s.heap.size) args s 0 0 A) (w_X2_weigh a1 o a1_forms a1_paper a1_words a1_stock cB cI cJ cZ s_a1 zs_o s_a1_forms s_a1_paper s_a1_words) [(0, .ref (o 0)), (1, .ref (a1 0)), (3, .int x3), (4, .int x4), (5, .int x5), (6, .int v6), (7, .int v7), (8, .int v8)] 34 []) → ∀ (v6 : Int32) (v7 : Int32) (v8 : Int32) (zs_o : S2) (k0 : Int64), F_X2_weigh_b110 s_a1 s_a1_forms s_a1_paper s_a1_words x2 x3 x4 x5 K34 v6 v7 v8 zs_o k0 = some r → gW p l e rm_X2_weigh s m args below meth c D A 11 (MQ below (QM D (tyL cB cI cJ cZ) none (w_X2_weigh a1 o a1_forms a1_paper a1_words a1_stock cB cI cJ cZ s_a1 s_o s_a1_forms s_a1_paper s_a1_words) (w_X2_weigh a1 o a1_forms a1_paper a1_words a1_stock cB cI cJ cZ s_a1 r s_a1_forms s_a1_paper s_a1_words) s.heap.size) args s 0 0 A) (w_X2_weigh a1 o a1_forms a1_paper a1_words a1_stock cB cI cJ cZ s_a1 zs_o s_a1_forms s_a1_paper s_a1_words) [(0, .ref (o 0)), (1, .ref (a1 0)), (3, .int x3), (4, .int x4), (5, .int x5), (6, .int v6), (7, .int v7), (8, .int v8)] 110 [.long k0] := by
    intro K34 k34 v6 v7 v8 zs_o k0 hf
    rw [F_X2_weigh_b110] at hf
    refine g_ls cx (L2 := fun v9_3 => [(9, .long v9_3), (0, .ref (o 0)), (1, .ref (a1 0)), (3, .int x3), (4, .int x4), (5, .int x5), (6, .int v6), (7, .int v7), (8, .int v8)]) hf dX2_weigh_110 (Nat.le_of_ble_eq_true rfl) (fun _ => rfl) (fun v9_3 hf => ?_)
    refine g_sub [1, 2, 3, 4, 5, 6, 7, 8, 0] rfl ?_
    exact h112 _ k34 _ _ _ _ _ hf
  have h68 : ∀ (K34 : Int32 → Int32 → Int32 → S2 → Option (S2)), (∀ (v6 : Int32) (v7 : Int32) (v8 : Int32) (zs_o : S2), K34 v6 v7 v8 zs_o = some r → gW p l e rm_X2_weigh s m args below meth c D A 11 (MQ below (QM D (tyL cB cI cJ cZ) none (w_X2_weigh a1 o a1_forms a1_paper a1_words a1_stock cB cI cJ cZ s_a1 s_o s_a1_forms s_a1_paper s_a1_words) (w_X2_weigh a1 o a1_forms a1_paper a1_words a1_stock cB cI cJ cZ s_a1 r s_a1_forms s_a1_paper s_a1_words) s.heap.size) args s 0 0 A) (w_X2_weigh a1 o a1_forms a1_paper a1_words a1_stock cB cI cJ cZ s_a1 zs_o s_a1_forms s_a1_paper s_a1_words) [(0, .ref (o 0)), (1, .ref (a1 0)), (3, .int x3), (4, .int x4), (5, .int x5), (6, .int v6), (7, .int v7), (8, .int v8)] 34 []) → ∀ (v6 : Int32) (v7 : Int32) (v8 : Int32) (v9 : Int64) (zs_o : S2), F_X2_weigh_b68 s_a1 s_a1_forms s_a1_paper s_a1_words x2 x3 x4 x5 K34 v6 v7 v8 v9 zs_o = some r → gW p l e rm_X2_weigh s m args below meth c D A 11 (MQ below (QM D (tyL cB cI cJ cZ) none (w_X2_weigh a1 o a1_forms a1_paper a1_words a1_stock cB cI cJ cZ s_a1 s_o s_a1_forms s_a1_paper s_a1_words) (w_X2_weigh a1 o a1_forms a1_paper a1_words a1_stock cB cI cJ cZ s_a1 r s_a1_forms s_a1_paper s_a1_words) s.heap.size) args s 0 0 A) (w_X2_weigh a1 o a1_forms a1_paper a1_words a1_stock cB cI cJ cZ s_a1 zs_o s_a1_forms s_a1_paper s_a1_words) [(0, .ref (o 0)), (1, .ref (a1 0)), (3, .int x3), (4, .int x4), (5, .int x5), (6, .int v6), (7, .int v7), (8, .int v8), (9, .long v9)] 68 [] := by
    intro K34 k34 v6 v7 v8 v9 zs_o hf
    rw [F_X2_weigh_b68] at hf
    refine g_aln cx 1 dX2_weigh_68 rfl ?_
    refine g_il cx 6 dX2_weigh_69 rfl ?_
    refine g_il cx 7 dX2_weigh_71 rfl ?_
    refine g_aln cx 1 dX2_weigh_73 rfl ?_
    refine fg_RX2_19 cx 0 rfl rfl dX2_weigh_74 ?_
    refine g_il cx 3 dX2_weigh_77 rfl ?_
    refine ob hf (fun q_4 hq_4 hf => ?_)
    refine g_callViR cx lk_RX2_94 (c_X4_beforeAt l D cB cI cJ cZ a1_paper s_a1_paper x4 q_4 hq_4) rfl [8, 9, 10, 11] rfl rfl (ci := 4) (q1 := 0) rfl rfl rfl (Nat.le_of_ble_eq_true rfl) ⟨rfl, rfl, Nat.le_of_ble_eq_true rfl, Nat.le_of_ble_eq_true rfl⟩ dX2_weigh_79 ?_
    refine ob hf (fun q_5 hq_5 hf => ?_)
    refine g_callViR cx lk_RX2_97 (c_X7_fits l D cB cI cJ cZ a1 a1_words a1_forms a1_paper a1_stock s_a1 s_a1_words v7 v8 q_4 q_5 hq_5) rfl [0, 1, 12, 13, 14, 15] rfl rfl (ci := 5) (q1 := 0) rfl rfl rfl (Nat.le_of_ble_eq_true rfl) ⟨rfl, rfl, Nat.le_of_ble_eq_true rfl, Nat.le_of_ble_eq_true rfl⟩ dX2_weigh_82 ?_
    refine g_if_eq (tgt := 112) cx hf dX2_weigh_85 rfl (fun hf => ?_) (fun hf => ?_)
    · exact h112 _ k34 _ _ _ _ _ hf
    · refine g_il cx 5 dX2_weigh_88 rfl ?_
      refine g_if_ge (tgt := 97) cx hf dX2_weigh_90 rfl (fun hf => ?_) (fun hf => ?_)
      · refine g_aln cx 0 dX2_weigh_97 rfl ?_
        refine g_aln cx 1 dX2_weigh_98 rfl ?_
        refine fg_RX2_49 cx 0 rfl rfl dX2_weigh_99 ?_
        refine g_iln cx 2 dX2_weigh_102 rfl ?_
        refine g_il cx 5 dX2_weigh_103 rfl ?_
        refine g_il cx 7 dX2_weigh_105 rfl ?_
        refine ob hf (fun q_6 hq_6 hf => ?_)
        refine g_callVlR cx lk_RX2_53 (c_X2_sum l D cB cI cJ cZ a1_words o s_a1_words zs_o x3 v6 v8 q_6 hq_6) rfl [12, 13, 14, 15, 2, 3, 4] rfl rfl (ci := 2) (q1 := 4) rfl rfl rfl (Nat.le_of_ble_eq_true rfl) ⟨rfl, rfl, Nat.le_of_ble_eq_true rfl, Nat.le_of_ble_eq_true rfl⟩ dX2_weigh_107 ?_
        refine g_sub [0, 1, 2, 3, 4, 5, 6, 7] rfl ?_
        exact h110 _ k34 _ _ _ _ _ hf
      · refine g_lc cx dX2_weigh_93 rfl ?_
        refine g_goto (tgt := 110) cx dX2_weigh_94 rfl ?_
        refine g_sub [0, 1, 2, 3, 4, 5, 6, 7] rfl ?_
        exact h110 _ k34 _ _ _ _ _ hf
  have h34 : ∀ (n : Nat) (v6 : Int32) (v7 : Int32) (v8 : Int32) (zs_o : S2), F_X2_weigh_b34 s_a1 s_a1_forms s_a1_paper s_a1_words x2 x3 x4 x5 n v6 v7 v8 zs_o = some r → gW p l e rm_X2_weigh s m args below meth c D A 11 (MQ below (QM D (tyL cB cI cJ cZ) none (w_X2_weigh a1 o a1_forms a1_paper a1_words a1_stock cB cI cJ cZ s_a1 s_o s_a1_forms s_a1_paper s_a1_words) (w_X2_weigh a1 o a1_forms a1_paper a1_words a1_stock cB cI cJ cZ s_a1 r s_a1_forms s_a1_paper s_a1_words) s.heap.size) args s 0 0 A) (w_X2_weigh a1 o a1_forms a1_paper a1_words a1_stock cB cI cJ cZ s_a1 zs_o s_a1_forms s_a1_paper s_a1_words) [(0, .ref (o 0)), (1, .ref (a1 0)), (3, .int x3), (4, .int x4), (5, .int x5), (6, .int v6), (7, .int v7), (8, .int v8)] 34 [] := by
    intro n
    induction n with
    | zero => intro v6 v7 v8 zs_o hf; rw [F_X2_weigh_b34] at hf; cases hf
    | succ n ih =>
      intro v6 v7 v8 zs_o hf
      rw [F_X2_weigh_b34] at hf
      refine g_il cx 7 dX2_weigh_34 rfl ?_
      refine g_aln cx 1 dX2_weigh_36 rfl ?_
      refine fg_RX2_49 cx 0 rfl rfl dX2_weigh_37 ?_
      refine ob hf (fun q_7 hq_7 hf => ?_)
      refine g_callViR cx lk_RX2_57 (c_X10_size l D cB cI cJ cZ a1_words s_a1_words q_7 hq_7) rfl [12, 13, 14, 15] rfl rfl (ci := 8) (q1 := 0) rfl rfl rfl (Nat.le_of_ble_eq_true rfl) ⟨rfl, rfl, Nat.le_of_ble_eq_true rfl, Nat.le_of_ble_eq_true rfl⟩ dX2_weigh_40 ?_
      refine g_ic_ge (tgt := 128) cx hf dX2_weigh_43 rfl (fun hf => ?_) (fun hf => ?_)
      · exact g_vret (ovf := fun (r : S2) => none) (wf := fun (r : S2) => (w_X2_weigh a1 o a1_forms a1_paper a1_words a1_stock cB cI cJ cZ s_a1 r s_a1_forms s_a1_paper s_a1_words)) cx hA hr hf rfl rfl dX2_weigh_128
      · refine g_lc cx dX2_weigh_46 rfl ?_
        refine g_ls cx (L2 := fun v9_8 => [(9, .long v9_8), (0, .ref (o 0)), (1, .ref (a1 0)), (3, .int x3), (4, .int x4), (5, .int x5), (6, .int v6), (7, .int v7), (8, .int v8)]) hf dX2_weigh_47 (Nat.le_of_ble_eq_true rfl) (fun _ => rfl) (fun v9_8 hf => ?_)
        refine g_il cx 5 dX2_weigh_49 rfl ?_
        refine g_if_ne (tgt := 68) cx hf dX2_weigh_51 rfl (fun hf => ?_) (fun hf => ?_)
        · refine g_sub [1, 2, 3, 4, 5, 6, 7, 8, 0] rfl ?_
          exact h68 _ ih _ _ _ _ _ hf
        · refine g_il cx 8 dX2_weigh_54 rfl ?_
          refine g_aln cx 2 dX2_weigh_56 rfl ?_
          refine fg_RX2_19 cx 0 rfl rfl dX2_weigh_57 ?_
          refine g_il cx 4 dX2_weigh_60 rfl ?_
          refine ob hf (fun q_9 hq_9 hf => ?_)
          refine g_callViR cx lk_RX2_91 (c_X4_wordAt l D cB cI cJ cZ a1_paper s_a1_paper x4 q_9 hq_9) rfl [8, 9, 10, 11] rfl rfl (ci := 4) (q1 := 0) rfl rfl rfl (Nat.le_of_ble_eq_true rfl) ⟨rfl, rfl, Nat.le_of_ble_eq_true rfl, Nat.le_of_ble_eq_true rfl⟩ dX2_weigh_62 ?_
          refine g_ic_ne (tgt := 112) cx hf dX2_weigh_65 rfl (fun hf => ?_) (fun hf => ?_)
          · refine g_sub [1, 2, 3, 4, 5, 6, 7, 8, 0] rfl ?_
            exact h112 _ ih _ _ _ _ _ hf
          · refine g_sub [1, 2, 3, 4, 5, 6, 7, 8, 0] rfl ?_
            exact h68 _ ih _ _ _ _ _ hf
  rw [F_X2_weigh] at hf
  refine g_aln cx 1 dX2_weigh_0 rfl ?_
  refine fg_RX2_31 cx 0 rfl rfl dX2_weigh_1 ?_
  refine g_iln cx 2 dX2_weigh_4 rfl ?_
  refine g_il cx 4 dX2_weigh_5 rfl ?_
  refine g_aln cx 1 dX2_weigh_7 rfl ?_
  refine fg_RX2_19 cx 0 rfl rfl dX2_weigh_8 ?_
  refine ob hf (fun q_10 hq_10 hf => ?_)
  refine g_callViR cx lk_RX2_25 (c_X4_size l D cB cI cJ cZ a1_paper s_a1_paper q_10 hq_10) rfl [8, 9, 10, 11] rfl rfl (ci := 4) (q1 := 0) rfl rfl rfl (Nat.le_of_ble_eq_true rfl) ⟨rfl, rfl, Nat.le_of_ble_eq_true rfl, Nat.le_of_ble_eq_true rfl⟩ dX2_weigh_11 ?_
  refine ob hf (fun q_11 hq_11 hf => ?_)
  refine g_callViR cx lk_RX2_84 (c_X1_behind l D cB cI cJ cZ a1_forms s_a1_forms x2 x4 q_10 q_11 hq_11) rfl [5, 6, 7] rfl rfl (ci := 1) (q1 := 0) rfl rfl rfl (Nat.le_of_ble_eq_true rfl) ⟨rfl, rfl, Nat.le_of_ble_eq_true rfl, Nat.le_of_ble_eq_true rfl⟩ dX2_weigh_14 ?_
  refine g_is cx (L2 := fun v6_12 => [(6, .int v6_12), (0, .ref (o 0)), (1, .ref (a1 0)), (2, .int x2), (3, .int x3), (4, .int x4), (5, .int x5)]) hf dX2_weigh_17 (Nat.le_of_ble_eq_true rfl) (fun _ => rfl) (fun v6_12 hf => ?_)
  refine g_aln cx 2 dX2_weigh_19 rfl ?_
  refine fg_RX2_31 cx 0 rfl rfl dX2_weigh_20 ?_
  refine g_iln cx 3 dX2_weigh_23 rfl ?_
  refine g_il cx 5 dX2_weigh_24 rfl ?_
  refine ob hf (fun q_13 hq_13 hf => ?_)
  refine g_callViR cx lk_RX2_88 (c_X1_letter l D cB cI cJ cZ a1_forms s_a1_forms x2 x4 q_13 hq_13) rfl [5, 6, 7] rfl rfl (ci := 1) (q1 := 0) rfl rfl rfl (Nat.le_of_ble_eq_true rfl) ⟨rfl, rfl, Nat.le_of_ble_eq_true rfl, Nat.le_of_ble_eq_true rfl⟩ dX2_weigh_26 ?_
  refine g_is cx (L2 := fun v7_14 => [(7, .int v7_14), (6, .int v6_12), (0, .ref (o 0)), (1, .ref (a1 0)), (2, .int x2), (3, .int x3), (4, .int x4), (5, .int x5)]) hf dX2_weigh_29 (Nat.le_of_ble_eq_true rfl) (fun _ => rfl) (fun v7_14 hf => ?_)
  refine g_ic cx dX2_weigh_31 k_ic0 ?_
  refine g_is cx (L2 := fun v8_15 => [(8, .int v8_15), (7, .int v7_14), (6, .int v6_12), (0, .ref (o 0)), (1, .ref (a1 0)), (2, .int x2), (3, .int x3), (4, .int x4), (5, .int x5)]) hf dX2_weigh_32 (Nat.le_of_ble_eq_true rfl) (fun _ => rfl) (fun v8_15 hf => ?_)
  refine g_sub [3, 4, 6, 7, 8, 2, 1, 0] rfl ?_
  exact h34 fu _ _ _ _ hf
theorem dX2_waysOf_0 : decode cX2_waysOf 0 = .ok (.aload_n 1, 1) := by decide +kernel
theorem dX2_waysOf_1 : decode cX2_waysOf 1 = .ok (.getfield 19, 3) := by decide +kernel
theorem dX2_waysOf_4 : decode cX2_waysOf 4 = .ok (.invokevirtual 25, 3) := by decide +kernel
theorem dX2_waysOf_7 : decode cX2_waysOf 7 = .ok (.istore 5, 2) := by decide +kernel
theorem dX2_waysOf_9 : decode cX2_waysOf 9 = .ok (.aload_n 1, 1) := by decide +kernel
theorem dX2_waysOf_10 : decode cX2_waysOf 10 = .ok (.getfield 31, 3) := by decide +kernel
theorem dX2_waysOf_13 : decode cX2_waysOf 13 = .ok (.iload_n 2, 1) := by decide +kernel
theorem dX2_waysOf_14 : decode cX2_waysOf 14 = .ok (.iload 5, 2) := by decide +kernel
theorem dX2_waysOf_16 : decode cX2_waysOf 16 = .ok (.invokevirtual 35, 3) := by decide +kernel
theorem dX2_waysOf_19 : decode cX2_waysOf 19 = .ok (.ifCond .ne 5, 3) := by decide +kernel
theorem dX2_waysOf_22 : decode cX2_waysOf 22 = .ok (.lconst 0, 1) := by decide +kernel
theorem dX2_waysOf_23 : decode cX2_waysOf 23 = .ok (.lreturn, 1) := by decide +kernel
theorem dX2_waysOf_24 : decode cX2_waysOf 24 = .ok (.lconst 1, 1) := by decide +kernel
theorem dX2_waysOf_25 : decode cX2_waysOf 25 = .ok (.lstore 6, 2) := by decide +kernel
theorem dX2_waysOf_27 : decode cX2_waysOf 27 = .ok (.iload 5, 2) := by decide +kernel
theorem dX2_waysOf_29 : decode cX2_waysOf 29 = .ok (.iconst 1, 1) := by decide +kernel
theorem dX2_waysOf_30 : decode cX2_waysOf 30 = .ok (.isub, 1) := by decide +kernel
theorem dX2_waysOf_31 : decode cX2_waysOf 31 = .ok (.istore 8, 2) := by decide +kernel
theorem dX2_waysOf_33 : decode cX2_waysOf 33 = .ok (.iload 8, 2) := by decide +kernel
theorem dX2_waysOf_35 : decode cX2_waysOf 35 = .ok (.ifCond .lt 63, 3) := by decide +kernel
theorem dX2_waysOf_38 : decode cX2_waysOf 38 = .ok (.aload_n 0, 1) := by decide +kernel
theorem dX2_waysOf_39 : decode cX2_waysOf 39 = .ok (.aload_n 1, 1) := by decide +kernel
theorem dX2_waysOf_40 : decode cX2_waysOf 40 = .ok (.iload_n 2, 1) := by decide +kernel
theorem dX2_waysOf_41 : decode cX2_waysOf 41 = .ok (.iload_n 3, 1) := by decide +kernel
theorem dX2_waysOf_42 : decode cX2_waysOf 42 = .ok (.iload 8, 2) := by decide +kernel
theorem dX2_waysOf_44 : decode cX2_waysOf 44 = .ok (.iload 4, 2) := by decide +kernel
theorem dX2_waysOf_46 : decode cX2_waysOf 46 = .ok (.iload 8, 2) := by decide +kernel
theorem dX2_waysOf_48 : decode cX2_waysOf 48 = .ok (.ishr, 1) := by decide +kernel
theorem dX2_waysOf_49 : decode cX2_waysOf 49 = .ok (.iconst 1, 1) := by decide +kernel
theorem dX2_waysOf_50 : decode cX2_waysOf 50 = .ok (.iand, 1) := by decide +kernel
theorem dX2_waysOf_51 : decode cX2_waysOf 51 = .ok (.ifCond .eq 7, 3) := by decide +kernel
theorem dX2_waysOf_54 : decode cX2_waysOf 54 = .ok (.iconst 1, 1) := by decide +kernel
theorem dX2_waysOf_55 : decode cX2_waysOf 55 = .ok (.goto 4, 3) := by decide +kernel
theorem dX2_waysOf_58 : decode cX2_waysOf 58 = .ok (.iconst 0, 1) := by decide +kernel
theorem dX2_waysOf_59 : decode cX2_waysOf 59 = .ok (.invokevirtual 41, 3) := by decide +kernel
theorem dX2_waysOf_62 : decode cX2_waysOf 62 = .ok (.aload_n 1, 1) := by decide +kernel
theorem dX2_waysOf_63 : decode cX2_waysOf 63 = .ok (.getfield 31, 3) := by decide +kernel
theorem dX2_waysOf_66 : decode cX2_waysOf 66 = .ok (.iload_n 2, 1) := by decide +kernel
theorem dX2_waysOf_67 : decode cX2_waysOf 67 = .ok (.iload 8, 2) := by decide +kernel
theorem dX2_waysOf_69 : decode cX2_waysOf 69 = .ok (.invokevirtual 45, 3) := by decide +kernel
theorem dX2_waysOf_72 : decode cX2_waysOf 72 = .ok (.ifCond .ge 20, 3) := by decide +kernel
theorem dX2_waysOf_75 : decode cX2_waysOf 75 = .ok (.lload 6, 2) := by decide +kernel
theorem dX2_waysOf_77 : decode cX2_waysOf 77 = .ok (.aload_n 0, 1) := by decide +kernel
theorem dX2_waysOf_78 : decode cX2_waysOf 78 = .ok (.aload_n 1, 1) := by decide +kernel
theorem dX2_waysOf_79 : decode cX2_waysOf 79 = .ok (.getfield 49, 3) := by decide +kernel
theorem dX2_waysOf_82 : decode cX2_waysOf 82 = .ok (.iload_n 3, 1) := by decide +kernel
theorem dX2_waysOf_83 : decode cX2_waysOf 83 = .ok (.iload 8, 2) := by decide +kernel
theorem dX2_waysOf_85 : decode cX2_waysOf 85 = .ok (.iconst (-1), 1) := by decide +kernel
theorem dX2_waysOf_86 : decode cX2_waysOf 86 = .ok (.invokevirtual 53, 3) := by decide +kernel
theorem dX2_waysOf_89 : decode cX2_waysOf 89 = .ok (.lmul, 1) := by decide +kernel
theorem dX2_waysOf_90 : decode cX2_waysOf 90 = .ok (.lstore 6, 2) := by decide +kernel
theorem dX2_waysOf_92 : decode cX2_waysOf 92 = .ok (.iinc 8 (-1), 3) := by decide +kernel
theorem dX2_waysOf_95 : decode cX2_waysOf 95 = .ok (.goto (-62), 3) := by decide +kernel
theorem dX2_waysOf_98 : decode cX2_waysOf 98 = .ok (.lload 6, 2) := by decide +kernel
theorem dX2_waysOf_100 : decode cX2_waysOf 100 = .ok (.lreturn, 1) := by decide +kernel
theorem q0_15 : Cond.selects RX2 yX2_weigh yX2_weigh ∈ TT := tq0 15 rfl rfl
theorem q4_123 : Cond.methodLink RX2 35 yX1_pairs ∈ TT := tq4 123 rfl rfl
theorem q4_124 : Cond.methodLink RX2 41 yX2_weigh ∈ TT := tq4 124 rfl rfl
theorem q4_126 : Cond.instanceMethod yX2_weigh ∈ TT := tq4 126 rfl rfl
theorem q4_127 : Cond.code yX2_weigh cX2_weigh 11 none ∈ TT := tq4 127 rfl rfl
theorem q4_147 : Cond.methodLink RX2 45 yX1_ahead ∈ TT := tq4 147 rfl rfl
theorem lk_RX2_41 : vlk RX2 41 yX2_weigh cX2_weigh 11 none 5 := ⟨List.forall_mem_cons.mpr ⟨q4_124, List.forall_mem_cons.mpr ⟨q4_126, List.forall_mem_cons.mpr ⟨q0_15, List.forall_mem_cons.mpr ⟨q1_7, fun _ h => absurd h List.not_mem_nil⟩⟩⟩⟩, q4_127, by decide, by decide, by decide +kernel⟩
theorem lk_RX2_45 : vlk RX2 45 yX1_ahead cX1_ahead 4 (some .int) 2 := ⟨List.forall_mem_cons.mpr ⟨q4_147, List.forall_mem_cons.mpr ⟨q3_234, List.forall_mem_cons.mpr ⟨q3_235, List.forall_mem_cons.mpr ⟨q1_11, fun _ h => absurd h List.not_mem_nil⟩⟩⟩⟩, q3_236, by decide, by decide, by decide +kernel⟩
theorem lk_RX2_35 : vlk RX2 35 yX1_pairs cX1_pairs 4 (some .boolean) 2 := ⟨List.forall_mem_cons.mpr ⟨q4_123, List.forall_mem_cons.mpr ⟨q3_230, List.forall_mem_cons.mpr ⟨q3_231, List.forall_mem_cons.mpr ⟨q1_11, fun _ h => absurd h List.not_mem_nil⟩⟩⟩⟩, q3_232, by decide, by decide, by decide +kernel⟩
def F_X2_waysOf_b92 (s_a1 : S7) (s_a1_forms : S1) (s_a1_paper : S4) (s_a1_words : S10) (x2 : Int32) (x3 : Int32) (x4 : Int32) (K33 : Int64 → Int32 → S2 → Option (Int64 × S2)) (v6 : Int64) (v8 : Int32) (zs_o : S2) : Option (Int64 × S2) := nm (v8 - 1) fun v8_1 => K33 v6 v8_1 zs_o
def F_X2_waysOf_b59 (s_a1 : S7) (s_a1_forms : S1) (s_a1_paper : S4) (s_a1_words : S10) (x2 : Int32) (x3 : Int32) (x4 : Int32) (K33 : Int64 → Int32 → S2 → Option (Int64 × S2)) (v6 : Int64) (v8 : Int32) (zs_o : S2) (k2 : Int32) (k3 : Int32) (k4 : Int32) (k5 : Int32) : Option (Int64 × S2) := (F_X2_weigh s_a1 zs_o s_a1_forms s_a1_paper s_a1_words k2 k3 k4 k5).bind fun q_2 => (F_X1_ahead s_a1_forms x2 v8).bind fun q_3 => (if 0 ≤ q_3 then F_X2_waysOf_b92 s_a1 s_a1_forms s_a1_paper s_a1_words x2 x3 x4 K33 v6 v8 q_2 else (F_X2_sum s_a1_words q_2 x3 v8 (-1)).bind fun q_4 => nm (v6 * q_4) fun v6_5 => F_X2_waysOf_b92 s_a1 s_a1_forms s_a1_paper s_a1_words x2 x3 x4 K33 v6_5 v8 q_2)
def F_X2_waysOf_b33 (s_a1 : S7) (s_a1_forms : S1) (s_a1_paper : S4) (s_a1_words : S10) (x2 : Int32) (x3 : Int32) (x4 : Int32) : Nat → Int64 → Int32 → S2 → Option (Int64 × S2)
  | 0, _, _, _ => none
  | n + 1, v6, v8, zs_o => (if v8 < 0 then some (v6, zs_o) else (if ((x4 >>> (v8 &&& 31)) &&& 1) = 0 then F_X2_waysOf_b59 s_a1 s_a1_forms s_a1_paper s_a1_words x2 x3 x4 (F_X2_waysOf_b33 s_a1 s_a1_forms s_a1_paper s_a1_words x2 x3 x4 n) v6 v8 zs_o x2 x3 v8 0 else F_X2_waysOf_b59 s_a1 s_a1_forms s_a1_paper s_a1_words x2 x3 x4 (F_X2_waysOf_b33 s_a1 s_a1_forms s_a1_paper s_a1_words x2 x3 x4 n) v6 v8 zs_o x2 x3 v8 1))
def F_X2_waysOf (s_a1 : S7) (s_o : S2) (s_a1_forms : S1) (s_a1_paper : S4) (s_a1_words : S10) (x2 : Int32) (x3 : Int32) (x4 : Int32) : Option (Int64 × S2) := (F_X4_size s_a1_paper).bind fun q_6 => nm q_6 fun v5_7 => (F_X1_pairs s_a1_forms x2 v5_7).bind fun q_8 => (if q_8 = 0 then some (0, s_o) else nm 1 fun v6_9 => nm (v5_7 - 1) fun v8_10 => F_X2_waysOf_b33 s_a1 s_a1_forms s_a1_paper s_a1_words x2 x3 x4 fu v6_9 v8_10 s_o)
def w_X2_waysOf (a1 o a1_forms a1_paper a1_words a1_stock : Nat → Nat) (cB cI cJ cZ : ClassId) (s_a1 : S7) (s_o : S2) (s_a1_forms : S1) (s_a1_paper : S4) (s_a1_words : S10) : va_W := [(a1 0, .inr (5, [.ref (a1_words 0), .ref (a1_forms 0), .ref (a1_paper 0), .ref (a1_stock 0), .ref (a1 1)])), (a1 1, .inl (cI, 8, .inl (s7_metres s_a1))), (o 0, .inr (2, [.ref (o 1), .ref (o 2)])), (o 1, .inl (cJ, 128, .inr (.inl (s2_ways s_o)))), (o 2, .inl (cI, 8, .inl (s2_possible s_o))), (a1_forms 0, .inr (1, [.ref (a1_forms 1), .ref (a1_forms 2), .int (s1_size s_a1_forms)])), (a1_forms 1, .inl (cI, 16, .inl (s1_letters s_a1_forms))), (a1_forms 2, .inl (cI, 2, .inl (s1_lengths s_a1_forms))), (a1_paper 0, .inr (4, [.ref (a1_paper 1), .ref (a1_paper 2), .ref (a1_paper 3), .int (s4_most s_a1_paper), .int (s4_size s_a1_paper)])), (a1_paper 1, .inl (cI, 8, .inl (s4_words s_a1_paper))), (a1_paper 2, .inl (cI, 8, .inl (s4_things s_a1_paper))), (a1_paper 3, .inl (cI, 8, .inl (s4_befores s_a1_paper))), (a1_words 0, .inr (8, [.ref (a1_words 1), .ref (a1_words 2), .ref (a1_words 3), .int (s10_size s_a1_words)])), (a1_words 1, .inl (cI, 48, .inl (s10_sounds s_a1_words))), (a1_words 2, .inl (cI, 16, .inl (s10_meanings s_a1_words))), (a1_words 3, .inl (cI, 16, .inl (s10_syllables s_a1_words)))]
abbrev rm_X2_waysOf : Room := { frames := 5, cells := 0, slots := 0, locals := 123 }
set_option maxHeartbeats 4000000 in
set_option maxRecDepth 100000 in
theorem c_X2_waysOf (l : Launch) (D : va_G) (cB cI cJ cZ : ClassId) (a1 o a1_forms a1_paper a1_words a1_stock : Nat → Nat) (s_a1 : S7) (s_o : S2) (s_a1_forms : S1) (s_a1_paper : S4) (s_a1_words : S10) (x2 : Int32) (x3 : Int32) (x4 : Int32) (r : Int64 × S2) (hf : F_X2_waysOf s_a1 s_o s_a1_forms s_a1_paper s_a1_words x2 x3 x4 = some r) : gM l D (tyL cB cI cJ cZ) yX2_waysOf cX2_waysOf 9 (some .long) rm_X2_waysOf [.ref (o 0), .ref (a1 0), .int x2, .int x3, .int x4] (w_X2_waysOf a1 o a1_forms a1_paper a1_words a1_stock cB cI cJ cZ s_a1 s_o s_a1_forms s_a1_paper s_a1_words) (some (.long r.1)) (w_X2_waysOf a1 o a1_forms a1_paper a1_words a1_stock cB cI cJ cZ s_a1 r.2 s_a1_forms s_a1_paper s_a1_words) := by
  refine met_of (by decide) (Nat.le_of_ble_eq_true rfl) ?_
  intro p e s m args below meth c A cx hr hA
  show gW p l e rm_X2_waysOf s m args below meth c D A 9 _ _ [(0, .ref (o 0)), (1, .ref (a1 0)), (2, .int x2), (3, .int x3), (4, .int x4)] 0 []
  have h92 : ∀ (K33 : Int64 → Int32 → S2 → Option (Int64 × S2)), (∀ (v6 : Int64) (v8 : Int32) (zs_o : S2), K33 v6 v8 zs_o = some r → gW p l e rm_X2_waysOf s m args below meth c D A 9 (MQ below (QM D (tyL cB cI cJ cZ) (some (.long r.1)) (w_X2_waysOf a1 o a1_forms a1_paper a1_words a1_stock cB cI cJ cZ s_a1 s_o s_a1_forms s_a1_paper s_a1_words) (w_X2_waysOf a1 o a1_forms a1_paper a1_words a1_stock cB cI cJ cZ s_a1 r.2 s_a1_forms s_a1_paper s_a1_words) s.heap.size) args s 0 0 A) (w_X2_waysOf a1 o a1_forms a1_paper a1_words a1_stock cB cI cJ cZ s_a1 zs_o s_a1_forms s_a1_paper s_a1_words) [(0, .ref (o 0)), (1, .ref (a1 0)), (2, .int x2), (3, .int x3), (4, .int x4), (6, .long v6), (8, .int v8)] 33 []) → ∀ (v6 : Int64) (v8 : Int32) (zs_o : S2), F_X2_waysOf_b92 s_a1 s_a1_forms s_a1_paper s_a1_words x2 x3 x4 K33 v6 v8 zs_o = some r → gW p l e rm_X2_waysOf s m args below meth c D A 9 (MQ below (QM D (tyL cB cI cJ cZ) (some (.long r.1)) (w_X2_waysOf a1 o a1_forms a1_paper a1_words a1_stock cB cI cJ cZ s_a1 s_o s_a1_forms s_a1_paper s_a1_words) (w_X2_waysOf a1 o a1_forms a1_paper a1_words a1_stock cB cI cJ cZ s_a1 r.2 s_a1_forms s_a1_paper s_a1_words) s.heap.size) args s 0 0 A) (w_X2_waysOf a1 o a1_forms a1_paper a1_words a1_stock cB cI cJ cZ s_a1 zs_o s_a1_forms s_a1_paper s_a1_words) [(0, .ref (o 0)), (1, .ref (a1 0)), (2, .int x2), (3, .int x3), (4, .int x4), (6, .long v6), (8, .int v8)] 92 [] := by
    intro K33 k33 v6 v8 zs_o hf
    rw [F_X2_waysOf_b92] at hf
    refine g_inc cx (L2 := fun v8_1 => [(8, .int v8_1), (0, .ref (o 0)), (1, .ref (a1 0)), (2, .int x2), (3, .int x3), (4, .int x4), (6, .long v6)]) 6 hf dX2_waysOf_92 rfl (k_incm1 _) (Nat.le_of_ble_eq_true rfl) (fun _ => rfl) (fun v8_1 hf => ?_)
    refine g_goto (tgt := 33) cx dX2_waysOf_95 rfl ?_
    refine g_sub [1, 2, 3, 4, 5, 6, 0] rfl ?_
    exact k33 _ _ _ hf
  have h59 : ∀ (K33 : Int64 → Int32 → S2 → Option (Int64 × S2)), (∀ (v6 : Int64) (v8 : Int32) (zs_o : S2), K33 v6 v8 zs_o = some r → gW p l e rm_X2_waysOf s m args below meth c D A 9 (MQ below (QM D (tyL cB cI cJ cZ) (some (.long r.1)) (w_X2_waysOf a1 o a1_forms a1_paper a1_words a1_stock cB cI cJ cZ s_a1 s_o s_a1_forms s_a1_paper s_a1_words) (w_X2_waysOf a1 o a1_forms a1_paper a1_words a1_stock cB cI cJ cZ s_a1 r.2 s_a1_forms s_a1_paper s_a1_words) s.heap.size) args s 0 0 A) (w_X2_waysOf a1 o a1_forms a1_paper a1_words a1_stock cB cI cJ cZ s_a1 zs_o s_a1_forms s_a1_paper s_a1_words) [(0, .ref (o 0)), (1, .ref (a1 0)), (2, .int x2), (3, .int x3), (4, .int x4), (6, .long v6), (8, .int v8)] 33 []) → ∀ (v6 : Int64) (v8 : Int32) (zs_o : S2) (k2 : Int32) (k3 : Int32) (k4 : Int32) (k5 : Int32), F_X2_waysOf_b59 s_a1 s_a1_forms s_a1_paper s_a1_words x2 x3 x4 K33 v6 v8 zs_o k2 k3 k4 k5 = some r → gW p l e rm_X2_waysOf s m args below meth c D A 9 (MQ below (QM D (tyL cB cI cJ cZ) (some (.long r.1)) (w_X2_waysOf a1 o a1_forms a1_paper a1_words a1_stock cB cI cJ cZ s_a1 s_o s_a1_forms s_a1_paper s_a1_words) (w_X2_waysOf a1 o a1_forms a1_paper a1_words a1_stock cB cI cJ cZ s_a1 r.2 s_a1_forms s_a1_paper s_a1_words) s.heap.size) args s 0 0 A) (w_X2_waysOf a1 o a1_forms a1_paper a1_words a1_stock cB cI cJ cZ s_a1 zs_o s_a1_forms s_a1_paper s_a1_words) [(0, .ref (o 0)), (1, .ref (a1 0)), (2, .int x2), (3, .int x3), (4, .int x4), (6, .long v6), (8, .int v8)] 59 [.int k5, .int k4, .int k3, .int k2, .ref (a1 0), .ref (o 0)] := by
    intro K33 k33 v6 v8 zs_o k2 k3 k4 k5 hf
    rw [F_X2_waysOf_b59] at hf
    refine ob hf (fun q_2 hq_2 hf => ?_)
    refine g_callVv cx lk_RX2_41 (c_X2_weigh l D cB cI cJ cZ a1 o a1_forms a1_paper a1_words a1_stock s_a1 zs_o s_a1_forms s_a1_paper s_a1_words k2 k3 k4 k5 q_2 hq_2) rfl [0, 1, 2, 3, 4, 5, 6, 7, 8, 9, 10, 11, 12, 13, 14, 15] rfl rfl (ws' := (w_X2_waysOf a1 o a1_forms a1_paper a1_words a1_stock cB cI cJ cZ s_a1 q_2 s_a1_forms s_a1_paper s_a1_words)) rfl rfl (ci := 2) (q1 := 2) rfl rfl rfl (Nat.le_of_ble_eq_true rfl) ⟨rfl, rfl, Nat.le_of_ble_eq_true rfl, Nat.le_of_ble_eq_true rfl⟩ dX2_waysOf_59 ?_
    refine g_aln cx 1 dX2_waysOf_62 rfl ?_
    refine fg_RX2_31 cx 0 rfl rfl dX2_waysOf_63 ?_
    refine g_iln cx 2 dX2_waysOf_66 rfl ?_
    refine g_il cx 6 dX2_waysOf_67 rfl ?_
    refine ob hf (fun q_3 hq_3 hf => ?_)
    refine g_callViR cx lk_RX2_45 (c_X1_ahead l D cB cI cJ cZ a1_forms s_a1_forms x2 v8 q_3 hq_3) rfl [5, 6, 7] rfl rfl (ci := 1) (q1 := 0) rfl rfl rfl (Nat.le_of_ble_eq_true rfl) ⟨rfl, rfl, Nat.le_of_ble_eq_true rfl, Nat.le_of_ble_eq_true rfl⟩ dX2_waysOf_69 ?_
    refine g_if_ge (tgt := 92) cx hf dX2_waysOf_72 rfl (fun hf => ?_) (fun hf => ?_)
    · exact h92 _ k33 _ _ _ hf
    · refine g_ll cx 5 dX2_waysOf_75 rfl ?_
      refine g_aln cx 0 dX2_waysOf_77 rfl ?_
      refine g_aln cx 1 dX2_waysOf_78 rfl ?_
      refine fg_RX2_49 cx 0 rfl rfl dX2_waysOf_79 ?_
      refine g_iln cx 3 dX2_waysOf_82 rfl ?_
      refine g_il cx 6 dX2_waysOf_83 rfl ?_
      refine g_ic cx dX2_waysOf_85 k_icm1 ?_
      refine ob hf (fun q_4 hq_4 hf => ?_)
      refine g_callVlR cx lk_RX2_53 (c_X2_sum l D cB cI cJ cZ a1_words o s_a1_words q_2 x3 v8 (-1) q_4 hq_4) rfl [12, 13, 14, 15, 2, 3, 4] rfl rfl (ci := 2) (q1 := 4) rfl rfl rfl (Nat.le_of_ble_eq_true rfl) ⟨rfl, rfl, Nat.le_of_ble_eq_true rfl, Nat.le_of_ble_eq_true rfl⟩ dX2_waysOf_86 ?_
      refine g_lmul cx dX2_waysOf_89 ?_
      refine g_ls cx (L2 := fun v6_5 => [(6, .long v6_5), (0, .ref (o 0)), (1, .ref (a1 0)), (2, .int x2), (3, .int x3), (4, .int x4), (8, .int v8)]) hf dX2_waysOf_90 (Nat.le_of_ble_eq_true rfl) (fun _ => rfl) (fun v6_5 hf => ?_)
      refine g_sub [1, 2, 3, 4, 5, 0, 6] rfl ?_
      exact h92 _ k33 _ _ _ hf
  have h33 : ∀ (n : Nat) (v6 : Int64) (v8 : Int32) (zs_o : S2), F_X2_waysOf_b33 s_a1 s_a1_forms s_a1_paper s_a1_words x2 x3 x4 n v6 v8 zs_o = some r → gW p l e rm_X2_waysOf s m args below meth c D A 9 (MQ below (QM D (tyL cB cI cJ cZ) (some (.long r.1)) (w_X2_waysOf a1 o a1_forms a1_paper a1_words a1_stock cB cI cJ cZ s_a1 s_o s_a1_forms s_a1_paper s_a1_words) (w_X2_waysOf a1 o a1_forms a1_paper a1_words a1_stock cB cI cJ cZ s_a1 r.2 s_a1_forms s_a1_paper s_a1_words) s.heap.size) args s 0 0 A) (w_X2_waysOf a1 o a1_forms a1_paper a1_words a1_stock cB cI cJ cZ s_a1 zs_o s_a1_forms s_a1_paper s_a1_words) [(0, .ref (o 0)), (1, .ref (a1 0)), (2, .int x2), (3, .int x3), (4, .int x4), (6, .long v6), (8, .int v8)] 33 [] := by
    intro n
    induction n with
    | zero => intro v6 v8 zs_o hf; rw [F_X2_waysOf_b33] at hf; cases hf
    | succ n ih =>
      intro v6 v8 zs_o hf
      rw [F_X2_waysOf_b33] at hf
      refine g_il cx 6 dX2_waysOf_33 rfl ?_
      refine g_if_lt (tgt := 98) cx hf dX2_waysOf_35 rfl (fun hf => ?_) (fun hf => ?_)
      · refine g_ll cx 5 dX2_waysOf_98 rfl ?_
        exact g_lret (ovf := fun (r : Int64 × S2) => (some (.long r.1))) (wf := fun (r : Int64 × S2) => (w_X2_waysOf a1 o a1_forms a1_paper a1_words a1_stock cB cI cJ cZ s_a1 r.2 s_a1_forms s_a1_paper s_a1_words)) cx hA hr hf rfl rfl dX2_waysOf_100
      · refine g_aln cx 0 dX2_waysOf_38 rfl ?_
        refine g_aln cx 1 dX2_waysOf_39 rfl ?_
        refine g_iln cx 2 dX2_waysOf_40 rfl ?_
        refine g_iln cx 3 dX2_waysOf_41 rfl ?_
        refine g_il cx 6 dX2_waysOf_42 rfl ?_
        refine g_il cx 4 dX2_waysOf_44 rfl ?_
        refine g_il cx 6 dX2_waysOf_46 rfl ?_
        refine g_ishr cx dX2_waysOf_48 ?_
        refine g_ic cx dX2_waysOf_49 k_ic1 ?_
        refine g_iand cx dX2_waysOf_50 ?_
        refine g_if_eq (tgt := 58) cx hf dX2_waysOf_51 rfl (fun hf => ?_) (fun hf => ?_)
        · refine g_ic cx dX2_waysOf_58 k_ic0 ?_
          exact h59 _ ih _ _ _ _ _ _ _ hf
        · refine g_ic cx dX2_waysOf_54 k_ic1 ?_
          refine g_goto (tgt := 59) cx dX2_waysOf_55 rfl ?_
          exact h59 _ ih _ _ _ _ _ _ _ hf
  rw [F_X2_waysOf] at hf
  refine g_aln cx 1 dX2_waysOf_0 rfl ?_
  refine fg_RX2_19 cx 0 rfl rfl dX2_waysOf_1 ?_
  refine ob hf (fun q_6 hq_6 hf => ?_)
  refine g_callViR cx lk_RX2_25 (c_X4_size l D cB cI cJ cZ a1_paper s_a1_paper q_6 hq_6) rfl [8, 9, 10, 11] rfl rfl (ci := 4) (q1 := 0) rfl rfl rfl (Nat.le_of_ble_eq_true rfl) ⟨rfl, rfl, Nat.le_of_ble_eq_true rfl, Nat.le_of_ble_eq_true rfl⟩ dX2_waysOf_4 ?_
  refine g_is cx (L2 := fun v5_7 => [(5, .int v5_7), (0, .ref (o 0)), (1, .ref (a1 0)), (2, .int x2), (3, .int x3), (4, .int x4)]) hf dX2_waysOf_7 (Nat.le_of_ble_eq_true rfl) (fun _ => rfl) (fun v5_7 hf => ?_)
  refine g_aln cx 2 dX2_waysOf_9 rfl ?_
  refine fg_RX2_31 cx 0 rfl rfl dX2_waysOf_10 ?_
  refine g_iln cx 3 dX2_waysOf_13 rfl ?_
  refine g_il cx 0 dX2_waysOf_14 rfl ?_
  refine ob hf (fun q_8 hq_8 hf => ?_)
  refine g_callViR cx lk_RX2_35 (c_X1_pairs l D cB cI cJ cZ a1_forms s_a1_forms x2 v5_7 q_8 hq_8) rfl [5, 6, 7] rfl rfl (ci := 1) (q1 := 0) rfl rfl rfl (Nat.le_of_ble_eq_true rfl) ⟨rfl, rfl, Nat.le_of_ble_eq_true rfl, Nat.le_of_ble_eq_true rfl⟩ dX2_waysOf_16 ?_
  refine g_if_ne (tgt := 24) cx hf dX2_waysOf_19 rfl (fun hf => ?_) (fun hf => ?_)
  · refine g_lc cx dX2_waysOf_24 rfl ?_
    refine g_ls cx (L2 := fun v6_9 => [(6, .long v6_9), (5, .int v5_7), (0, .ref (o 0)), (1, .ref (a1 0)), (2, .int x2), (3, .int x3), (4, .int x4)]) hf dX2_waysOf_25 (Nat.le_of_ble_eq_true rfl) (fun _ => rfl) (fun v6_9 hf => ?_)
    refine g_il cx 1 dX2_waysOf_27 rfl ?_
    refine g_ic cx dX2_waysOf_29 k_ic1 ?_
    refine g_isub cx dX2_waysOf_30 ?_
    refine g_is cx (L2 := fun v8_10 => [(8, .int v8_10), (6, .long v6_9), (5, .int v5_7), (0, .ref (o 0)), (1, .ref (a1 0)), (2, .int x2), (3, .int x3), (4, .int x4)]) hf dX2_waysOf_31 (Nat.le_of_ble_eq_true rfl) (fun _ => rfl) (fun v8_10 hf => ?_)
    refine g_sub [3, 4, 5, 6, 7, 1, 0] rfl ?_
    exact h33 fu _ _ _ hf
  · refine g_lc cx dX2_waysOf_22 rfl ?_
    exact g_lret (ovf := fun (r : Int64 × S2) => (some (.long r.1))) (wf := fun (r : Int64 × S2) => (w_X2_waysOf a1 o a1_forms a1_paper a1_words a1_stock cB cI cJ cZ s_a1 r.2 s_a1_forms s_a1_paper s_a1_words)) cx hA hr hf rfl rfl dX2_waysOf_23
theorem dX2_isReached_0 : decode cX2_isReached 0 = .ok (.aload_n 0, 1) := by decide +kernel
theorem dX2_isReached_1 : decode cX2_isReached 1 = .ok (.getfield 15, 3) := by decide +kernel
theorem dX2_isReached_4 : decode cX2_isReached 4 = .ok (.iload_n 3, 1) := by decide +kernel
theorem dX2_isReached_5 : decode cX2_isReached 5 = .ok (.invokestatic 74, 3) := by decide +kernel
theorem dX2_isReached_8 : decode cX2_isReached 8 = .ok (.istore 5, 2) := by decide +kernel
theorem dX2_isReached_10 : decode cX2_isReached 10 = .ok (.iconst 0, 1) := by decide +kernel
theorem dX2_isReached_11 : decode cX2_isReached 11 = .ok (.istore 6, 2) := by decide +kernel
theorem dX2_isReached_13 : decode cX2_isReached 13 = .ok (.iload 6, 2) := by decide +kernel
theorem dX2_isReached_15 : decode cX2_isReached 15 = .ok (.aload_n 1, 1) := by decide +kernel
theorem dX2_isReached_16 : decode cX2_isReached 16 = .ok (.invokevirtual 57, 3) := by decide +kernel
theorem dX2_isReached_19 : decode cX2_isReached 19 = .ok (.if_icmp .ge 33, 3) := by decide +kernel
theorem dX2_isReached_22 : decode cX2_isReached 22 = .ok (.iload 5, 2) := by decide +kernel
theorem dX2_isReached_24 : decode cX2_isReached 24 = .ok (.iload 6, 2) := by decide +kernel
theorem dX2_isReached_26 : decode cX2_isReached 26 = .ok (.ishr, 1) := by decide +kernel
theorem dX2_isReached_27 : decode cX2_isReached 27 = .ok (.iconst 1, 1) := by decide +kernel
theorem dX2_isReached_28 : decode cX2_isReached 28 = .ok (.iand, 1) := by decide +kernel
theorem dX2_isReached_29 : decode cX2_isReached 29 = .ok (.ifCond .eq 17, 3) := by decide +kernel
theorem dX2_isReached_32 : decode cX2_isReached 32 = .ok (.aload_n 1, 1) := by decide +kernel
theorem dX2_isReached_33 : decode cX2_isReached 33 = .ok (.iload_n 2, 1) := by decide +kernel
theorem dX2_isReached_34 : decode cX2_isReached 34 = .ok (.iload 6, 2) := by decide +kernel
theorem dX2_isReached_36 : decode cX2_isReached 36 = .ok (.iload 4, 2) := by decide +kernel
theorem dX2_isReached_38 : decode cX2_isReached 38 = .ok (.invokevirtual 105, 3) := by decide +kernel
theorem dX2_isReached_41 : decode cX2_isReached 41 = .ok (.ifCond .eq 5, 3) := by decide +kernel
theorem dX2_isReached_44 : decode cX2_isReached 44 = .ok (.iconst 1, 1) := by decide +kernel
theorem dX2_isReached_45 : decode cX2_isReached 45 = .ok (.ireturn, 1) := by decide +kernel
theorem dX2_isReached_46 : decode cX2_isReached 46 = .ok (.iinc 6 1, 3) := by decide +kernel
theorem dX2_isReached_49 : decode cX2_isReached 49 = .ok (.goto (-36), 3) := by decide +kernel
theorem dX2_isReached_52 : decode cX2_isReached 52 = .ok (.iconst 0, 1) := by decide +kernel
theorem dX2_isReached_53 : decode cX2_isReached 53 = .ok (.ireturn, 1) := by decide +kernel
theorem q1_120 : Cond.fieldLink RX2 15 "RhymeLaw$Guess" "possible" "[I" ∈ TT := tq1 120 rfl rfl
theorem q4_156 : Cond.methodLink RX2 74 yX6_at ∈ TT := tq4 156 rfl rfl
theorem fg_RX2_15 {p : Program} {l : Launch} {e : Env} {R : Room} {s : State} {m : MethodId} {args : Array Value} {below : List Frame} {meth : Method} {c : Code} {D : va_G} {tys : List (ClassId × FieldType)} {A : Nat → Prop} {nL : Nat} {Q : State → Prop} {cc : ByteArray} {ws : va_W} {L : List (Nat × Value)} {pc : Nat} {stk : List Value} (cx : gX p s m args meth c cc nL RX2 D tys A) {a : Nat} {fs : List Value} {v : Value} (q0 : Nat) (he : ws[q0]? = some (a, .inr (2, fs))) (hv : fs[1]? = some v) (hd : decode cc pc = .ok (.getfield 15, 3)) (kk : gW p l e R s m args below meth c D A nL Q ws L (pc + 3) (v :: stk)) : gW p l e R s m args below meth c D A nL Q ws L pc (.ref a :: stk) :=
  g_get cx (C := RX2) (T := TX2) (N := 2) inT2 rfl 1 (Nat.le_of_ble_eq_true rfl) q1_120 rfl q0 he hv hd kk
theorem lk_RX2_74 : slk RX2 74 yX6_at cX6_at 2 (some .int) 2 := ⟨List.forall_mem_cons.mpr ⟨q4_156, List.forall_mem_cons.mpr ⟨q2_207, List.forall_mem_cons.mpr ⟨q1_19, fun _ h => absurd h List.not_mem_nil⟩⟩⟩, q2_208, by decide, by decide, by decide +kernel⟩
def F_X2_isReached_b46 (s_a1 : S10) (s_o : S2) (x2 : Int32) (x3 : Int32) (x4 : Int32) (K13 : Int32 → Int32 → Option (Int32)) (v5 : Int32) (v6 : Int32) : Option (Int32) := nm (v6 + 1) fun v6_1 => K13 v5 v6_1
def F_X2_isReached_b13 (s_a1 : S10) (s_o : S2) (x2 : Int32) (x3 : Int32) (x4 : Int32) : Nat → Int32 → Int32 → Option (Int32)
  | 0, _, _ => none
  | n + 1, v5, v6 => (F_X10_size s_a1).bind fun q_2 => (if q_2 ≤ v6 then some (0) else (if ((v5 >>> (v6 &&& 31)) &&& 1) = 0 then F_X2_isReached_b46 s_a1 s_o x2 x3 x4 (F_X2_isReached_b13 s_a1 s_o x2 x3 x4 n) v5 v6 else (F_X10_rhyme s_a1 x2 v6 x4).bind fun q_3 => (if q_3 = 0 then F_X2_isReached_b46 s_a1 s_o x2 x3 x4 (F_X2_isReached_b13 s_a1 s_o x2 x3 x4 n) v5 v6 else some (1))))
def F_X2_isReached (s_a1 : S10) (s_o : S2) (x2 : Int32) (x3 : Int32) (x4 : Int32) : Option (Int32) := (F_X6_at 8 (s2_possible s_o) x3).bind fun q_4 => nm q_4 fun v5_5 => nm 0 fun v6_6 => F_X2_isReached_b13 s_a1 s_o x2 x3 x4 fu v5_5 v6_6
def w_X2_isReached (a1 o : Nat → Nat) (cB cI cJ cZ : ClassId) (s_a1 : S10) (s_o : S2) : va_W := [(a1 0, .inr (8, [.ref (a1 1), .ref (a1 2), .ref (a1 3), .int (s10_size s_a1)])), (a1 1, .inl (cI, 48, .inl (s10_sounds s_a1))), (a1 2, .inl (cI, 16, .inl (s10_meanings s_a1))), (a1 3, .inl (cI, 16, .inl (s10_syllables s_a1))), (o 0, .inr (2, [.ref (o 1), .ref (o 2)])), (o 1, .inl (cJ, 128, .inr (.inl (s2_ways s_o)))), (o 2, .inl (cI, 8, .inl (s2_possible s_o)))]
abbrev rm_X2_isReached : Room := { frames := 3, cells := 0, slots := 0, locals := 66 }
set_option maxHeartbeats 4000000 in
set_option maxRecDepth 100000 in
theorem c_X2_isReached (l : Launch) (D : va_G) (cB cI cJ cZ : ClassId) (a1 o : Nat → Nat) (s_a1 : S10) (s_o : S2) (x2 : Int32) (x3 : Int32) (x4 : Int32) (r : Int32) (hf : F_X2_isReached s_a1 s_o x2 x3 x4 = some r) : gM l D (tyL cB cI cJ cZ) yX2_isReached cX2_isReached 7 (some .boolean) rm_X2_isReached [.ref (o 0), .ref (a1 0), .int x2, .int x3, .int x4] (w_X2_isReached a1 o cB cI cJ cZ s_a1 s_o) (some (.int r)) (w_X2_isReached a1 o cB cI cJ cZ s_a1 s_o) := by
  refine met_of (by decide) (Nat.le_of_ble_eq_true rfl) ?_
  intro p e s m args below meth c A cx hr hA
  show gW p l e rm_X2_isReached s m args below meth c D A 7 _ _ [(0, .ref (o 0)), (1, .ref (a1 0)), (2, .int x2), (3, .int x3), (4, .int x4)] 0 []
  have h46 : ∀ (K13 : Int32 → Int32 → Option (Int32)), (∀ (v5 : Int32) (v6 : Int32), K13 v5 v6 = some r → gW p l e rm_X2_isReached s m args below meth c D A 7 (MQ below (QM D (tyL cB cI cJ cZ) (some (.int r)) (w_X2_isReached a1 o cB cI cJ cZ s_a1 s_o) (w_X2_isReached a1 o cB cI cJ cZ s_a1 s_o) s.heap.size) args s 0 0 A) (w_X2_isReached a1 o cB cI cJ cZ s_a1 s_o) [(1, .ref (a1 0)), (2, .int x2), (4, .int x4), (5, .int v5), (6, .int v6)] 13 []) → ∀ (v5 : Int32) (v6 : Int32), F_X2_isReached_b46 s_a1 s_o x2 x3 x4 K13 v5 v6 = some r → gW p l e rm_X2_isReached s m args below meth c D A 7 (MQ below (QM D (tyL cB cI cJ cZ) (some (.int r)) (w_X2_isReached a1 o cB cI cJ cZ s_a1 s_o) (w_X2_isReached a1 o cB cI cJ cZ s_a1 s_o) s.heap.size) args s 0 0 A) (w_X2_isReached a1 o cB cI cJ cZ s_a1 s_o) [(1, .ref (a1 0)), (2, .int x2), (4, .int x4), (5, .int v5), (6, .int v6)] 46 [] := by
    intro K13 k13 v5 v6 hf
    rw [F_X2_isReached_b46] at hf
    refine g_inc cx (L2 := fun v6_1 => [(6, .int v6_1), (1, .ref (a1 0)), (2, .int x2), (4, .int x4), (5, .int v5)]) 4 hf dX2_isReached_46 rfl (k_inc1 _) (Nat.le_of_ble_eq_true rfl) (fun _ => rfl) (fun v6_1 hf => ?_)
    refine g_goto (tgt := 13) cx dX2_isReached_49 rfl ?_
    refine g_sub [1, 2, 3, 4, 0] rfl ?_
    exact k13 _ _ hf
  have h13 : ∀ (n : Nat) (v5 : Int32) (v6 : Int32), F_X2_isReached_b13 s_a1 s_o x2 x3 x4 n v5 v6 = some r → gW p l e rm_X2_isReached s m args below meth c D A 7 (MQ below (QM D (tyL cB cI cJ cZ) (some (.int r)) (w_X2_isReached a1 o cB cI cJ cZ s_a1 s_o) (w_X2_isReached a1 o cB cI cJ cZ s_a1 s_o) s.heap.size) args s 0 0 A) (w_X2_isReached a1 o cB cI cJ cZ s_a1 s_o) [(1, .ref (a1 0)), (2, .int x2), (4, .int x4), (5, .int v5), (6, .int v6)] 13 [] := by
    intro n
    induction n with
    | zero => intro v5 v6 hf; rw [F_X2_isReached_b13] at hf; cases hf
    | succ n ih =>
      intro v5 v6 hf
      rw [F_X2_isReached_b13] at hf
      refine g_il cx 4 dX2_isReached_13 rfl ?_
      refine g_aln cx 0 dX2_isReached_15 rfl ?_
      refine ob hf (fun q_2 hq_2 hf => ?_)
      refine g_callViR cx lk_RX2_57 (c_X10_size l D cB cI cJ cZ a1 s_a1 q_2 hq_2) rfl [0, 1, 2, 3] rfl rfl (ci := 8) (q1 := 0) rfl rfl rfl (Nat.le_of_ble_eq_true rfl) ⟨rfl, rfl, Nat.le_of_ble_eq_true rfl, Nat.le_of_ble_eq_true rfl⟩ dX2_isReached_16 ?_
      refine g_ic_ge (tgt := 52) cx hf dX2_isReached_19 rfl (fun hf => ?_) (fun hf => ?_)
      · refine g_ic cx dX2_isReached_52 k_ic0 ?_
        exact g_zret (ovf := fun (r : Int32) => (some (.int r))) (wf := fun (r : Int32) => (w_X2_isReached a1 o cB cI cJ cZ s_a1 s_o)) cx hA hr rfl hf rfl rfl dX2_isReached_53
      · refine g_il cx 3 dX2_isReached_22 rfl ?_
        refine g_il cx 4 dX2_isReached_24 rfl ?_
        refine g_ishr cx dX2_isReached_26 ?_
        refine g_ic cx dX2_isReached_27 k_ic1 ?_
        refine g_iand cx dX2_isReached_28 ?_
        refine g_if_eq (tgt := 46) cx hf dX2_isReached_29 rfl (fun hf => ?_) (fun hf => ?_)
        · exact h46 _ ih _ _ hf
        · refine g_aln cx 0 dX2_isReached_32 rfl ?_
          refine g_iln cx 1 dX2_isReached_33 rfl ?_
          refine g_il cx 4 dX2_isReached_34 rfl ?_
          refine g_il cx 2 dX2_isReached_36 rfl ?_
          refine ob hf (fun q_3 hq_3 hf => ?_)
          refine g_callViR cx lk_RX2_105 (c_X10_rhyme l D cB cI cJ cZ a1 s_a1 x2 v6 x4 q_3 hq_3) rfl [0, 1, 2, 3] rfl rfl (ci := 8) (q1 := 0) rfl rfl rfl (Nat.le_of_ble_eq_true rfl) ⟨rfl, rfl, Nat.le_of_ble_eq_true rfl, Nat.le_of_ble_eq_true rfl⟩ dX2_isReached_38 ?_
          refine g_if_eq (tgt := 46) cx hf dX2_isReached_41 rfl (fun hf => ?_) (fun hf => ?_)
          · exact h46 _ ih _ _ hf
          · refine g_ic cx dX2_isReached_44 k_ic1 ?_
            exact g_zret (ovf := fun (r : Int32) => (some (.int r))) (wf := fun (r : Int32) => (w_X2_isReached a1 o cB cI cJ cZ s_a1 s_o)) cx hA hr rfl hf rfl rfl dX2_isReached_45
  rw [F_X2_isReached] at hf
  refine g_aln cx 0 dX2_isReached_0 rfl ?_
  refine fg_RX2_15 cx 4 rfl rfl dX2_isReached_1 ?_
  refine g_iln cx 3 dX2_isReached_4 rfl ?_
  refine ob hf (fun q_4 hq_4 hf => ?_)
  refine g_callSiR cx lk_RX2_74 (c_X6_at l D cB cI cJ cZ (o 2) 8 (s2_possible s_o) x3 q_4 hq_4) rfl [6] rfl rfl rfl (Nat.le_of_ble_eq_true rfl) ⟨rfl, rfl, Nat.le_of_ble_eq_true rfl, Nat.le_of_ble_eq_true rfl⟩ dX2_isReached_5 ?_
  refine g_is cx (L2 := fun v5_5 => [(5, .int v5_5), (0, .ref (o 0)), (1, .ref (a1 0)), (2, .int x2), (3, .int x3), (4, .int x4)]) hf dX2_isReached_8 (Nat.le_of_ble_eq_true rfl) (fun _ => rfl) (fun v5_5 hf => ?_)
  refine g_ic cx dX2_isReached_10 k_ic0 ?_
  refine g_is cx (L2 := fun v6_6 => [(6, .int v6_6), (5, .int v5_5), (0, .ref (o 0)), (1, .ref (a1 0)), (2, .int x2), (3, .int x3), (4, .int x4)]) hf dX2_isReached_11 (Nat.le_of_ble_eq_true rfl) (fun _ => rfl) (fun v6_6 hf => ?_)
  refine g_sub [3, 4, 6, 1, 0] rfl ?_
  exact h13 fu _ _ hf
theorem dX2_wordsOf_0 : decode cX2_wordsOf 0 = .ok (.iconst 0, 1) := by decide +kernel
theorem dX2_wordsOf_1 : decode cX2_wordsOf 1 = .ok (.istore 5, 2) := by decide +kernel
theorem dX2_wordsOf_3 : decode cX2_wordsOf 3 = .ok (.iload 5, 2) := by decide +kernel
theorem dX2_wordsOf_5 : decode cX2_wordsOf 5 = .ok (.iload 4, 2) := by decide +kernel
theorem dX2_wordsOf_7 : decode cX2_wordsOf 7 = .ok (.if_icmp .gt 99, 3) := by decide +kernel
theorem dX2_wordsOf_10 : decode cX2_wordsOf 10 = .ok (.aload_n 1, 1) := by decide +kernel
theorem dX2_wordsOf_11 : decode cX2_wordsOf 11 = .ok (.getfield 31, 3) := by decide +kernel
theorem dX2_wordsOf_14 : decode cX2_wordsOf 14 = .ok (.iload_n 2, 1) := by decide +kernel
theorem dX2_wordsOf_15 : decode cX2_wordsOf 15 = .ok (.iload 5, 2) := by decide +kernel
theorem dX2_wordsOf_17 : decode cX2_wordsOf 17 = .ok (.invokevirtual 45, 3) := by decide +kernel
theorem dX2_wordsOf_20 : decode cX2_wordsOf 20 = .ok (.istore 6, 2) := by decide +kernel
theorem dX2_wordsOf_22 : decode cX2_wordsOf 22 = .ok (.iconst 0, 1) := by decide +kernel
theorem dX2_wordsOf_23 : decode cX2_wordsOf 23 = .ok (.istore 7, 2) := by decide +kernel
theorem dX2_wordsOf_25 : decode cX2_wordsOf 25 = .ok (.iconst 0, 1) := by decide +kernel
theorem dX2_wordsOf_26 : decode cX2_wordsOf 26 = .ok (.istore 8, 2) := by decide +kernel
theorem dX2_wordsOf_28 : decode cX2_wordsOf 28 = .ok (.iload 8, 2) := by decide +kernel
theorem dX2_wordsOf_30 : decode cX2_wordsOf 30 = .ok (.aload_n 1, 1) := by decide +kernel
theorem dX2_wordsOf_31 : decode cX2_wordsOf 31 = .ok (.getfield 49, 3) := by decide +kernel
theorem dX2_wordsOf_34 : decode cX2_wordsOf 34 = .ok (.invokevirtual 57, 3) := by decide +kernel
theorem dX2_wordsOf_37 : decode cX2_wordsOf 37 = .ok (.if_icmp .ge 52, 3) := by decide +kernel
theorem dX2_wordsOf_40 : decode cX2_wordsOf 40 = .ok (.aload_n 0, 1) := by decide +kernel
theorem dX2_wordsOf_41 : decode cX2_wordsOf 41 = .ok (.iload 5, 2) := by decide +kernel
theorem dX2_wordsOf_43 : decode cX2_wordsOf 43 = .ok (.iload 8, 2) := by decide +kernel
theorem dX2_wordsOf_45 : decode cX2_wordsOf 45 = .ok (.invokevirtual 60, 3) := by decide +kernel
theorem dX2_wordsOf_48 : decode cX2_wordsOf 48 = .ok (.lconst 0, 1) := by decide +kernel
theorem dX2_wordsOf_49 : decode cX2_wordsOf 49 = .ok (.lcmp, 1) := by decide +kernel
theorem dX2_wordsOf_50 : decode cX2_wordsOf 50 = .ok (.ifCond .le 33, 3) := by decide +kernel
theorem dX2_wordsOf_53 : decode cX2_wordsOf 53 = .ok (.iload 6, 2) := by decide +kernel
theorem dX2_wordsOf_55 : decode cX2_wordsOf 55 = .ok (.ifCond .lt 19, 3) := by decide +kernel
theorem dX2_wordsOf_58 : decode cX2_wordsOf 58 = .ok (.aload_n 0, 1) := by decide +kernel
theorem dX2_wordsOf_59 : decode cX2_wordsOf 59 = .ok (.aload_n 1, 1) := by decide +kernel
theorem dX2_wordsOf_60 : decode cX2_wordsOf 60 = .ok (.getfield 49, 3) := by decide +kernel
theorem dX2_wordsOf_63 : decode cX2_wordsOf 63 = .ok (.iload_n 3, 1) := by decide +kernel
theorem dX2_wordsOf_64 : decode cX2_wordsOf 64 = .ok (.iload 6, 2) := by decide +kernel
theorem dX2_wordsOf_66 : decode cX2_wordsOf 66 = .ok (.iload 8, 2) := by decide +kernel
theorem dX2_wordsOf_68 : decode cX2_wordsOf 68 = .ok (.invokevirtual 64, 3) := by decide +kernel
theorem dX2_wordsOf_71 : decode cX2_wordsOf 71 = .ok (.ifCond .eq 12, 3) := by decide +kernel
theorem dX2_wordsOf_74 : decode cX2_wordsOf 74 = .ok (.iload 7, 2) := by decide +kernel
theorem dX2_wordsOf_76 : decode cX2_wordsOf 76 = .ok (.iconst 1, 1) := by decide +kernel
theorem dX2_wordsOf_77 : decode cX2_wordsOf 77 = .ok (.iload 8, 2) := by decide +kernel
theorem dX2_wordsOf_79 : decode cX2_wordsOf 79 = .ok (.ishl, 1) := by decide +kernel
theorem dX2_wordsOf_80 : decode cX2_wordsOf 80 = .ok (.ior, 1) := by decide +kernel
theorem dX2_wordsOf_81 : decode cX2_wordsOf 81 = .ok (.istore 7, 2) := by decide +kernel
theorem dX2_wordsOf_83 : decode cX2_wordsOf 83 = .ok (.iinc 8 1, 3) := by decide +kernel
theorem dX2_wordsOf_86 : decode cX2_wordsOf 86 = .ok (.goto (-58), 3) := by decide +kernel
theorem dX2_wordsOf_89 : decode cX2_wordsOf 89 = .ok (.aload_n 0, 1) := by decide +kernel
theorem dX2_wordsOf_90 : decode cX2_wordsOf 90 = .ok (.getfield 15, 3) := by decide +kernel
theorem dX2_wordsOf_93 : decode cX2_wordsOf 93 = .ok (.iload 5, 2) := by decide +kernel
theorem dX2_wordsOf_95 : decode cX2_wordsOf 95 = .ok (.iload 7, 2) := by decide +kernel
theorem dX2_wordsOf_97 : decode cX2_wordsOf 97 = .ok (.invokestatic 68, 3) := by decide +kernel
theorem dX2_wordsOf_100 : decode cX2_wordsOf 100 = .ok (.iinc 5 1, 3) := by decide +kernel
theorem dX2_wordsOf_103 : decode cX2_wordsOf 103 = .ok (.goto (-100), 3) := by decide +kernel
theorem dX2_wordsOf_106 : decode cX2_wordsOf 106 = .ok (.aload_n 0, 1) := by decide +kernel
theorem dX2_wordsOf_107 : decode cX2_wordsOf 107 = .ok (.getfield 15, 3) := by decide +kernel
theorem dX2_wordsOf_110 : decode cX2_wordsOf 110 = .ok (.iload 4, 2) := by decide +kernel
theorem dX2_wordsOf_112 : decode cX2_wordsOf 112 = .ok (.invokestatic 74, 3) := by decide +kernel
theorem dX2_wordsOf_115 : decode cX2_wordsOf 115 = .ok (.invokestatic 78, 3) := by decide +kernel
theorem dX2_wordsOf_118 : decode cX2_wordsOf 118 = .ok (.ireturn, 1) := by decide +kernel
theorem q0_19 : Cond.selects RX2 yX2_isReached yX2_isReached ∈ TT := tq0 19 rfl rfl
theorem q4_152 : Cond.methodLink RX2 64 yX2_isReached ∈ TT := tq4 152 rfl rfl
theorem q4_154 : Cond.instanceMethod yX2_isReached ∈ TT := tq4 154 rfl rfl
theorem q4_155 : Cond.code yX2_isReached cX2_isReached 7 (some .boolean) ∈ TT := tq4 155 rfl rfl
theorem q4_157 : Cond.methodLink RX2 68 yX6_set ∈ TT := tq4 157 rfl rfl
theorem q4_158 : Cond.methodLink RX2 78 yJ6_bitCount_0f7a4 ∈ TT := tq4 158 rfl rfl
theorem lk_RX2_68 : slk RX2 68 yX6_set cX6_set 3 none 3 := ⟨List.forall_mem_cons.mpr ⟨q4_157, List.forall_mem_cons.mpr ⟨q2_178, List.forall_mem_cons.mpr ⟨q1_19, fun _ h => absurd h List.not_mem_nil⟩⟩⟩, q2_179, by decide, by decide, by decide +kernel⟩
theorem lk_RX2_64 : vlk RX2 64 yX2_isReached cX2_isReached 7 (some .boolean) 4 := ⟨List.forall_mem_cons.mpr ⟨q4_152, List.forall_mem_cons.mpr ⟨q4_154, List.forall_mem_cons.mpr ⟨q0_19, List.forall_mem_cons.mpr ⟨q1_7, fun _ h => absurd h List.not_mem_nil⟩⟩⟩⟩, q4_155, by decide, by decide, by decide +kernel⟩
theorem lk_RX2_78 : slk RX2 78 yJ6_bitCount_0f7a4 cJ6_bitCount_0f7a4 1 (some .int) 1 := ⟨List.forall_mem_cons.mpr ⟨q4_158, List.forall_mem_cons.mpr ⟨q3_211, List.forall_mem_cons.mpr ⟨q1_20, fun _ h => absurd h List.not_mem_nil⟩⟩⟩, q3_212, by decide, by decide, by decide +kernel⟩
def F_X2_wordsOf_b83 (s_a1 : S7) (s_a1_forms : S1) (s_a1_words : S10) (x2 : Int32) (x3 : Int32) (x4 : Int32) (K3 : Int32 → S2 → Option (Int32 × S2)) (K28 : Int32 → Int32 → Int32 → Int32 → S2 → Option (Int32 × S2)) (v5 : Int32) (v6 : Int32) (v7 : Int32) (v8 : Int32) (zs_o : S2) : Option (Int32 × S2) := nm (v8 + 1) fun v8_1 => K28 v5 v6 v7 v8_1 zs_o
def F_X2_wordsOf_b74 (s_a1 : S7) (s_a1_forms : S1) (s_a1_words : S10) (x2 : Int32) (x3 : Int32) (x4 : Int32) (K3 : Int32 → S2 → Option (Int32 × S2)) (K28 : Int32 → Int32 → Int32 → Int32 → S2 → Option (Int32 × S2)) (v5 : Int32) (v6 : Int32) (v7 : Int32) (v8 : Int32) (zs_o : S2) : Option (Int32 × S2) := nm (v7 ||| (1 <<< (v8 &&& 31))) fun v7_2 => F_X2_wordsOf_b83 s_a1 s_a1_forms s_a1_words x2 x3 x4 K3 K28 v5 v6 v7_2 v8 zs_o
def F_X2_wordsOf_b28 (s_a1 : S7) (s_a1_forms : S1) (s_a1_words : S10) (x2 : Int32) (x3 : Int32) (x4 : Int32) (K3 : Int32 → S2 → Option (Int32 × S2)) : Nat → Int32 → Int32 → Int32 → Int32 → S2 → Option (Int32 × S2)
  | 0, _, _, _, _, _ => none
  | n + 1, v5, v6, v7, v8, zs_o => (F_X10_size s_a1_words).bind fun q_3 => (if q_3 ≤ v8 then (F_X6_set 8 (s2_possible zs_o) v5 v7).bind fun q_4 => nm (v5 + 1) fun v5_5 => K3 v5_5 (u2_possible zs_o q_4) else (F_X2_waysAt zs_o v5 v8).bind fun q_6 => (if (lg_cmp q_6 0) ≤ 0 then F_X2_wordsOf_b83 s_a1 s_a1_forms s_a1_words x2 x3 x4 K3 (F_X2_wordsOf_b28 s_a1 s_a1_forms s_a1_words x2 x3 x4 K3 n) v5 v6 v7 v8 zs_o else (if v6 < 0 then F_X2_wordsOf_b74 s_a1 s_a1_forms s_a1_words x2 x3 x4 K3 (F_X2_wordsOf_b28 s_a1 s_a1_forms s_a1_words x2 x3 x4 K3 n) v5 v6 v7 v8 zs_o else (F_X2_isReached s_a1_words zs_o x3 v6 v8).bind fun q_7 => (if q_7 = 0 then F_X2_wordsOf_b83 s_a1 s_a1_forms s_a1_words x2 x3 x4 K3 (F_X2_wordsOf_b28 s_a1 s_a1_forms s_a1_words x2 x3 x4 K3 n) v5 v6 v7 v8 zs_o else F_X2_wordsOf_b74 s_a1 s_a1_forms s_a1_words x2 x3 x4 K3 (F_X2_wordsOf_b28 s_a1 s_a1_forms s_a1_words x2 x3 x4 K3 n) v5 v6 v7 v8 zs_o))))
def F_X2_wordsOf_b3 (s_a1 : S7) (s_a1_forms : S1) (s_a1_words : S10) (x2 : Int32) (x3 : Int32) (x4 : Int32) : Nat → Int32 → S2 → Option (Int32 × S2)
  | 0, _, _ => none
  | n + 1, v5, zs_o => (if x4 < v5 then (F_X6_at 8 (s2_possible zs_o) x4).bind fun q_8 => (F_J6_bitCount_0f7a4 q_8).bind fun q_9 => some (q_9, zs_o) else (F_X1_ahead s_a1_forms x2 v5).bind fun q_10 => nm q_10 fun v6_11 => nm 0 fun v7_12 => nm 0 fun v8_13 => F_X2_wordsOf_b28 s_a1 s_a1_forms s_a1_words x2 x3 x4 (F_X2_wordsOf_b3 s_a1 s_a1_forms s_a1_words x2 x3 x4 n) fu v5 v6_11 v7_12 v8_13 zs_o)
def F_X2_wordsOf (s_a1 : S7) (s_o : S2) (s_a1_forms : S1) (s_a1_words : S10) (x2 : Int32) (x3 : Int32) (x4 : Int32) : Option (Int32 × S2) := nm 0 fun v5_14 => F_X2_wordsOf_b3 s_a1 s_a1_forms s_a1_words x2 x3 x4 fu v5_14 s_o
def w_X2_wordsOf (a1 o a1_forms a1_words a1_paper a1_stock : Nat → Nat) (cB cI cJ cZ : ClassId) (s_a1 : S7) (s_o : S2) (s_a1_forms : S1) (s_a1_words : S10) : va_W := [(a1 0, .inr (5, [.ref (a1_words 0), .ref (a1_forms 0), .ref (a1_paper 0), .ref (a1_stock 0), .ref (a1 1)])), (a1 1, .inl (cI, 8, .inl (s7_metres s_a1))), (o 0, .inr (2, [.ref (o 1), .ref (o 2)])), (o 1, .inl (cJ, 128, .inr (.inl (s2_ways s_o)))), (o 2, .inl (cI, 8, .inl (s2_possible s_o))), (a1_forms 0, .inr (1, [.ref (a1_forms 1), .ref (a1_forms 2), .int (s1_size s_a1_forms)])), (a1_forms 1, .inl (cI, 16, .inl (s1_letters s_a1_forms))), (a1_forms 2, .inl (cI, 2, .inl (s1_lengths s_a1_forms))), (a1_words 0, .inr (8, [.ref (a1_words 1), .ref (a1_words 2), .ref (a1_words 3), .int (s10_size s_a1_words)])), (a1_words 1, .inl (cI, 48, .inl (s10_sounds s_a1_words))), (a1_words 2, .inl (cI, 16, .inl (s10_meanings s_a1_words))), (a1_words 3, .inl (cI, 16, .inl (s10_syllables s_a1_words)))]
abbrev rm_X2_wordsOf : Room := { frames := 4, cells := 0, slots := 0, locals := 92 }
set_option maxHeartbeats 4000000 in
set_option maxRecDepth 100000 in
theorem c_X2_wordsOf (l : Launch) (D : va_G) (cB cI cJ cZ : ClassId) (a1 o a1_forms a1_words a1_paper a1_stock : Nat → Nat) (s_a1 : S7) (s_o : S2) (s_a1_forms : S1) (s_a1_words : S10) (x2 : Int32) (x3 : Int32) (x4 : Int32) (r : Int32 × S2) (hf : F_X2_wordsOf s_a1 s_o s_a1_forms s_a1_words x2 x3 x4 = some r) : gM l D (tyL cB cI cJ cZ) yX2_wordsOf cX2_wordsOf 9 (some .int) rm_X2_wordsOf [.ref (o 0), .ref (a1 0), .int x2, .int x3, .int x4] (w_X2_wordsOf a1 o a1_forms a1_words a1_paper a1_stock cB cI cJ cZ s_a1 s_o s_a1_forms s_a1_words) (some (.int r.1)) (w_X2_wordsOf a1 o a1_forms a1_words a1_paper a1_stock cB cI cJ cZ s_a1 r.2 s_a1_forms s_a1_words) := by
  refine met_of (by decide) (Nat.le_of_ble_eq_true rfl) ?_
  intro p e s m args below meth c A cx hr hA
  show gW p l e rm_X2_wordsOf s m args below meth c D A 9 _ _ [(0, .ref (o 0)), (1, .ref (a1 0)), (2, .int x2), (3, .int x3), (4, .int x4)] 0 []
  have h83 : ∀ (K3 : Int32 → S2 → Option (Int32 × S2)), (∀ (v5 : Int32) (zs_o : S2), K3 v5 zs_o = some r → gW p l e rm_X2_wordsOf s m args below meth c D A 9 (MQ below (QM D (tyL cB cI cJ cZ) (some (.int r.1)) (w_X2_wordsOf a1 o a1_forms a1_words a1_paper a1_stock cB cI cJ cZ s_a1 s_o s_a1_forms s_a1_words) (w_X2_wordsOf a1 o a1_forms a1_words a1_paper a1_stock cB cI cJ cZ s_a1 r.2 s_a1_forms s_a1_words) s.heap.size) args s 0 0 A) (w_X2_wordsOf a1 o a1_forms a1_words a1_paper a1_stock cB cI cJ cZ s_a1 zs_o s_a1_forms s_a1_words) [(0, .ref (o 0)), (1, .ref (a1 0)), (2, .int x2), (3, .int x3), (4, .int x4), (5, .int v5)] 3 []) → ∀ (K28 : Int32 → Int32 → Int32 → Int32 → S2 → Option (Int32 × S2)), (∀ (v5 : Int32) (v6 : Int32) (v7 : Int32) (v8 : Int32) (zs_o : S2), K28 v5 v6 v7 v8 zs_o = some r → gW p l e rm_X2_wordsOf s m args below meth c D A 9 (MQ below (QM D (tyL cB cI cJ cZ) (some (.int r.1)) (w_X2_wordsOf a1 o a1_forms a1_words a1_paper a1_stock cB cI cJ cZ s_a1 s_o s_a1_forms s_a1_words) (w_X2_wordsOf a1 o a1_forms a1_words a1_paper a1_stock cB cI cJ cZ s_a1 r.2 s_a1_forms s_a1_words) s.heap.size) args s 0 0 A) (w_X2_wordsOf a1 o a1_forms a1_words a1_paper a1_stock cB cI cJ cZ s_a1 zs_o s_a1_forms s_a1_words) [(0, .ref (o 0)), (1, .ref (a1 0)), (2, .int x2), (3, .int x3), (4, .int x4), (5, .int v5), (6, .int v6), (7, .int v7), (8, .int v8)] 28 []) → ∀ (v5 : Int32) (v6 : Int32) (v7 : Int32) (v8 : Int32) (zs_o : S2), F_X2_wordsOf_b83 s_a1 s_a1_forms s_a1_words x2 x3 x4 K3 K28 v5 v6 v7 v8 zs_o = some r → gW p l e rm_X2_wordsOf s m args below meth c D A 9 (MQ below (QM D (tyL cB cI cJ cZ) (some (.int r.1)) (w_X2_wordsOf a1 o a1_forms a1_words a1_paper a1_stock cB cI cJ cZ s_a1 s_o s_a1_forms s_a1_words) (w_X2_wordsOf a1 o a1_forms a1_words a1_paper a1_stock cB cI cJ cZ s_a1 r.2 s_a1_forms s_a1_words) s.heap.size) args s 0 0 A) (w_X2_wordsOf a1 o a1_forms a1_words a1_paper a1_stock cB cI cJ cZ s_a1 zs_o s_a1_forms s_a1_words) [(0, .ref (o 0)), (1, .ref (a1 0)), (2, .int x2), (3, .int x3), (4, .int x4), (5, .int v5), (6, .int v6), (7, .int v7), (8, .int v8)] 83 [] := by
    intro K3 k3 K28 k28 v5 v6 v7 v8 zs_o hf
    rw [F_X2_wordsOf_b83] at hf
    refine g_inc cx (L2 := fun v8_1 => [(8, .int v8_1), (0, .ref (o 0)), (1, .ref (a1 0)), (2, .int x2), (3, .int x3), (4, .int x4), (5, .int v5), (6, .int v6), (7, .int v7)]) 8 hf dX2_wordsOf_83 rfl (k_inc1 _) (Nat.le_of_ble_eq_true rfl) (fun _ => rfl) (fun v8_1 hf => ?_)
    refine g_goto (tgt := 28) cx dX2_wordsOf_86 rfl ?_
    refine g_sub [1, 2, 3, 4, 5, 6, 7, 8, 0] rfl ?_
    exact k28 _ _ _ _ _ hf
  have h74 : ∀ (K3 : Int32 → S2 → Option (Int32 × S2)), (∀ (v5 : Int32) (zs_o : S2), K3 v5 zs_o = some r → gW p l e rm_X2_wordsOf s m args below meth c D A 9 (MQ below (QM D (tyL cB cI cJ cZ) (some (.int r.1)) (w_X2_wordsOf a1 o a1_forms a1_words a1_paper a1_stock cB cI cJ cZ s_a1 s_o s_a1_forms s_a1_words) (w_X2_wordsOf a1 o a1_forms a1_words a1_paper a1_stock cB cI cJ cZ s_a1 r.2 s_a1_forms s_a1_words) s.heap.size) args s 0 0 A) (w_X2_wordsOf a1 o a1_forms a1_words a1_paper a1_stock cB cI cJ cZ s_a1 zs_o s_a1_forms s_a1_words) [(0, .ref (o 0)), (1, .ref (a1 0)), (2, .int x2), (3, .int x3), (4, .int x4), (5, .int v5)] 3 []) → ∀ (K28 : Int32 → Int32 → Int32 → Int32 → S2 → Option (Int32 × S2)), (∀ (v5 : Int32) (v6 : Int32) (v7 : Int32) (v8 : Int32) (zs_o : S2), K28 v5 v6 v7 v8 zs_o = some r → gW p l e rm_X2_wordsOf s m args below meth c D A 9 (MQ below (QM D (tyL cB cI cJ cZ) (some (.int r.1)) (w_X2_wordsOf a1 o a1_forms a1_words a1_paper a1_stock cB cI cJ cZ s_a1 s_o s_a1_forms s_a1_words) (w_X2_wordsOf a1 o a1_forms a1_words a1_paper a1_stock cB cI cJ cZ s_a1 r.2 s_a1_forms s_a1_words) s.heap.size) args s 0 0 A) (w_X2_wordsOf a1 o a1_forms a1_words a1_paper a1_stock cB cI cJ cZ s_a1 zs_o s_a1_forms s_a1_words) [(0, .ref (o 0)), (1, .ref (a1 0)), (2, .int x2), (3, .int x3), (4, .int x4), (5, .int v5), (6, .int v6), (7, .int v7), (8, .int v8)] 28 []) → ∀ (v5 : Int32) (v6 : Int32) (v7 : Int32) (v8 : Int32) (zs_o : S2), F_X2_wordsOf_b74 s_a1 s_a1_forms s_a1_words x2 x3 x4 K3 K28 v5 v6 v7 v8 zs_o = some r → gW p l e rm_X2_wordsOf s m args below meth c D A 9 (MQ below (QM D (tyL cB cI cJ cZ) (some (.int r.1)) (w_X2_wordsOf a1 o a1_forms a1_words a1_paper a1_stock cB cI cJ cZ s_a1 s_o s_a1_forms s_a1_words) (w_X2_wordsOf a1 o a1_forms a1_words a1_paper a1_stock cB cI cJ cZ s_a1 r.2 s_a1_forms s_a1_words) s.heap.size) args s 0 0 A) (w_X2_wordsOf a1 o a1_forms a1_words a1_paper a1_stock cB cI cJ cZ s_a1 zs_o s_a1_forms s_a1_words) [(0, .ref (o 0)), (1, .ref (a1 0)), (2, .int x2), (3, .int x3), (4, .int x4), (5, .int v5), (6, .int v6), (7, .int v7), (8, .int v8)] 74 [] := by
    intro K3 k3 K28 k28 v5 v6 v7 v8 zs_o hf
    rw [F_X2_wordsOf_b74] at hf
    refine g_il cx 7 dX2_wordsOf_74 rfl ?_
    refine g_ic cx dX2_wordsOf_76 k_ic1 ?_
    refine g_il cx 8 dX2_wordsOf_77 rfl ?_
    refine g_ishl cx dX2_wordsOf_79 ?_
    refine g_ior cx dX2_wordsOf_80 ?_
    refine g_is cx (L2 := fun v7_2 => [(7, .int v7_2), (0, .ref (o 0)), (1, .ref (a1 0)), (2, .int x2), (3, .int x3), (4, .int x4), (5, .int v5), (6, .int v6), (8, .int v8)]) hf dX2_wordsOf_81 (Nat.le_of_ble_eq_true rfl) (fun _ => rfl) (fun v7_2 hf => ?_)
    refine g_sub [1, 2, 3, 4, 5, 6, 7, 0, 8] rfl ?_
    exact h83 _ k3 _ k28 _ _ _ _ _ hf
  have h28 : ∀ (K3 : Int32 → S2 → Option (Int32 × S2)), (∀ (v5 : Int32) (zs_o : S2), K3 v5 zs_o = some r → gW p l e rm_X2_wordsOf s m args below meth c D A 9 (MQ below (QM D (tyL cB cI cJ cZ) (some (.int r.1)) (w_X2_wordsOf a1 o a1_forms a1_words a1_paper a1_stock cB cI cJ cZ s_a1 s_o s_a1_forms s_a1_words) (w_X2_wordsOf a1 o a1_forms a1_words a1_paper a1_stock cB cI cJ cZ s_a1 r.2 s_a1_forms s_a1_words) s.heap.size) args s 0 0 A) (w_X2_wordsOf a1 o a1_forms a1_words a1_paper a1_stock cB cI cJ cZ s_a1 zs_o s_a1_forms s_a1_words) [(0, .ref (o 0)), (1, .ref (a1 0)), (2, .int x2), (3, .int x3), (4, .int x4), (5, .int v5)] 3 []) → ∀ (n : Nat) (v5 : Int32) (v6 : Int32) (v7 : Int32) (v8 : Int32) (zs_o : S2), F_X2_wordsOf_b28 s_a1 s_a1_forms s_a1_words x2 x3 x4 K3 n v5 v6 v7 v8 zs_o = some r → gW p l e rm_X2_wordsOf s m args below meth c D A 9 (MQ below (QM D (tyL cB cI cJ cZ) (some (.int r.1)) (w_X2_wordsOf a1 o a1_forms a1_words a1_paper a1_stock cB cI cJ cZ s_a1 s_o s_a1_forms s_a1_words) (w_X2_wordsOf a1 o a1_forms a1_words a1_paper a1_stock cB cI cJ cZ s_a1 r.2 s_a1_forms s_a1_words) s.heap.size) args s 0 0 A) (w_X2_wordsOf a1 o a1_forms a1_words a1_paper a1_stock cB cI cJ cZ s_a1 zs_o s_a1_forms s_a1_words) [(0, .ref (o 0)), (1, .ref (a1 0)), (2, .int x2), (3, .int x3), (4, .int x4), (5, .int v5), (6, .int v6), (7, .int v7), (8, .int v8)] 28 [] := by
    intro K3 k3 n
    induction n with
    | zero => intro v5 v6 v7 v8 zs_o hf; rw [F_X2_wordsOf_b28] at hf; cases hf
    | succ n ih =>
      intro v5 v6 v7 v8 zs_o hf
      rw [F_X2_wordsOf_b28] at hf
      refine g_il cx 8 dX2_wordsOf_28 rfl ?_
      refine g_aln cx 1 dX2_wordsOf_30 rfl ?_
      refine fg_RX2_49 cx 0 rfl rfl dX2_wordsOf_31 ?_
      refine ob hf (fun q_3 hq_3 hf => ?_)
      refine g_callViR cx lk_RX2_57 (c_X10_size l D cB cI cJ cZ a1_words s_a1_words q_3 hq_3) rfl [8, 9, 10, 11] rfl rfl (ci := 8) (q1 := 0) rfl rfl rfl (Nat.le_of_ble_eq_true rfl) ⟨rfl, rfl, Nat.le_of_ble_eq_true rfl, Nat.le_of_ble_eq_true rfl⟩ dX2_wordsOf_34 ?_
      refine g_ic_ge (tgt := 89) cx hf dX2_wordsOf_37 rfl (fun hf => ?_) (fun hf => ?_)
      · refine g_aln cx 0 dX2_wordsOf_89 rfl ?_
        refine fg_RX2_15 cx 2 rfl rfl dX2_wordsOf_90 ?_
        refine g_il cx 5 dX2_wordsOf_93 rfl ?_
        refine g_il cx 7 dX2_wordsOf_95 rfl ?_
        refine ob hf (fun q_4 hq_4 hf => ?_)
        refine g_callSv cx lk_RX2_68 (c_X6_set l D cB cI cJ cZ (o 2) 8 (s2_possible zs_o) v5 v7 q_4 hq_4) rfl [4] rfl rfl (ws' := (w_X2_wordsOf a1 o a1_forms a1_words a1_paper a1_stock cB cI cJ cZ s_a1 (u2_possible zs_o q_4) s_a1_forms s_a1_words)) rfl rfl rfl (Nat.le_of_ble_eq_true rfl) ⟨rfl, rfl, Nat.le_of_ble_eq_true rfl, Nat.le_of_ble_eq_true rfl⟩ dX2_wordsOf_97 ?_
        refine g_inc cx (L2 := fun v5_5 => [(5, .int v5_5), (0, .ref (o 0)), (1, .ref (a1 0)), (2, .int x2), (3, .int x3), (4, .int x4), (6, .int v6), (7, .int v7), (8, .int v8)]) 5 hf dX2_wordsOf_100 rfl (k_inc1 _) (Nat.le_of_ble_eq_true rfl) (fun _ => rfl) (fun v5_5 hf => ?_)
        refine g_goto (tgt := 3) cx dX2_wordsOf_103 rfl ?_
        refine g_sub [1, 2, 3, 4, 5, 0] rfl ?_
        exact k3 _ _ hf
      · refine g_aln cx 0 dX2_wordsOf_40 rfl ?_
        refine g_il cx 5 dX2_wordsOf_41 rfl ?_
        refine g_il cx 8 dX2_wordsOf_43 rfl ?_
        refine ob hf (fun q_6 hq_6 hf => ?_)
        refine g_callVlR cx lk_RX2_60 (c_X2_waysAt l D cB cI cJ cZ o zs_o v5 v8 q_6 hq_6) rfl [2, 3, 4] rfl rfl (ci := 2) (q1 := 0) rfl rfl rfl (Nat.le_of_ble_eq_true rfl) ⟨rfl, rfl, Nat.le_of_ble_eq_true rfl, Nat.le_of_ble_eq_true rfl⟩ dX2_wordsOf_45 ?_
        refine g_lc cx dX2_wordsOf_48 rfl ?_
        refine g_lcmp cx dX2_wordsOf_49 ?_
        refine g_if_le (tgt := 83) cx hf dX2_wordsOf_50 rfl (fun hf => ?_) (fun hf => ?_)
        · exact h83 _ k3 _ ih _ _ _ _ _ hf
        · refine g_il cx 6 dX2_wordsOf_53 rfl ?_
          refine g_if_lt (tgt := 74) cx hf dX2_wordsOf_55 rfl (fun hf => ?_) (fun hf => ?_)
          · exact h74 _ k3 _ ih _ _ _ _ _ hf
          · refine g_aln cx 0 dX2_wordsOf_58 rfl ?_
            refine g_aln cx 1 dX2_wordsOf_59 rfl ?_
            refine fg_RX2_49 cx 0 rfl rfl dX2_wordsOf_60 ?_
            refine g_iln cx 3 dX2_wordsOf_63 rfl ?_
            refine g_il cx 6 dX2_wordsOf_64 rfl ?_
            refine g_il cx 8 dX2_wordsOf_66 rfl ?_
            refine ob hf (fun q_7 hq_7 hf => ?_)
            refine g_callViR cx lk_RX2_64 (c_X2_isReached l D cB cI cJ cZ a1_words o s_a1_words zs_o x3 v6 v8 q_7 hq_7) rfl [8, 9, 10, 11, 2, 3, 4] rfl rfl (ci := 2) (q1 := 4) rfl rfl rfl (Nat.le_of_ble_eq_true rfl) ⟨rfl, rfl, Nat.le_of_ble_eq_true rfl, Nat.le_of_ble_eq_true rfl⟩ dX2_wordsOf_68 ?_
            refine g_if_eq (tgt := 83) cx hf dX2_wordsOf_71 rfl (fun hf => ?_) (fun hf => ?_)
            · exact h83 _ k3 _ ih _ _ _ _ _ hf
            · exact h74 _ k3 _ ih _ _ _ _ _ hf
  have h3 : ∀ (n : Nat) (v5 : Int32) (zs_o : S2), F_X2_wordsOf_b3 s_a1 s_a1_forms s_a1_words x2 x3 x4 n v5 zs_o = some r → gW p l e rm_X2_wordsOf s m args below meth c D A 9 (MQ below (QM D (tyL cB cI cJ cZ) (some (.int r.1)) (w_X2_wordsOf a1 o a1_forms a1_words a1_paper a1_stock cB cI cJ cZ s_a1 s_o s_a1_forms s_a1_words) (w_X2_wordsOf a1 o a1_forms a1_words a1_paper a1_stock cB cI cJ cZ s_a1 r.2 s_a1_forms s_a1_words) s.heap.size) args s 0 0 A) (w_X2_wordsOf a1 o a1_forms a1_words a1_paper a1_stock cB cI cJ cZ s_a1 zs_o s_a1_forms s_a1_words) [(0, .ref (o 0)), (1, .ref (a1 0)), (2, .int x2), (3, .int x3), (4, .int x4), (5, .int v5)] 3 [] := by
    intro n
    induction n with
    | zero => intro v5 zs_o hf; rw [F_X2_wordsOf_b3] at hf; cases hf
    | succ n ih =>
      intro v5 zs_o hf
      rw [F_X2_wordsOf_b3] at hf
      refine g_il cx 5 dX2_wordsOf_3 rfl ?_
      refine g_il cx 4 dX2_wordsOf_5 rfl ?_
      refine g_ic_gt (tgt := 106) cx hf dX2_wordsOf_7 rfl (fun hf => ?_) (fun hf => ?_)
      · refine g_aln cx 0 dX2_wordsOf_106 rfl ?_
        refine fg_RX2_15 cx 2 rfl rfl dX2_wordsOf_107 ?_
        refine g_il cx 4 dX2_wordsOf_110 rfl ?_
        refine ob hf (fun q_8 hq_8 hf => ?_)
        refine g_callSiR cx lk_RX2_74 (c_X6_at l D cB cI cJ cZ (o 2) 8 (s2_possible zs_o) x4 q_8 hq_8) rfl [4] rfl rfl rfl (Nat.le_of_ble_eq_true rfl) ⟨rfl, rfl, Nat.le_of_ble_eq_true rfl, Nat.le_of_ble_eq_true rfl⟩ dX2_wordsOf_112 ?_
        refine ob hf (fun q_9 hq_9 hf => ?_)
        refine g_callSiR cx lk_RX2_78 (c_J6_bitCount_0f7a4 l D cB cI cJ cZ q_8 q_9 hq_9) rfl [] rfl rfl rfl (Nat.le_of_ble_eq_true rfl) ⟨rfl, rfl, Nat.le_of_ble_eq_true rfl, Nat.le_of_ble_eq_true rfl⟩ dX2_wordsOf_115 ?_
        exact g_iret (ovf := fun (r : Int32 × S2) => (some (.int r.1))) (wf := fun (r : Int32 × S2) => (w_X2_wordsOf a1 o a1_forms a1_words a1_paper a1_stock cB cI cJ cZ s_a1 r.2 s_a1_forms s_a1_words)) cx hA hr hf rfl rfl dX2_wordsOf_118
      · refine g_aln cx 1 dX2_wordsOf_10 rfl ?_
        refine fg_RX2_31 cx 0 rfl rfl dX2_wordsOf_11 ?_
        refine g_iln cx 2 dX2_wordsOf_14 rfl ?_
        refine g_il cx 5 dX2_wordsOf_15 rfl ?_
        refine ob hf (fun q_10 hq_10 hf => ?_)
        refine g_callViR cx lk_RX2_45 (c_X1_ahead l D cB cI cJ cZ a1_forms s_a1_forms x2 v5 q_10 hq_10) rfl [5, 6, 7] rfl rfl (ci := 1) (q1 := 0) rfl rfl rfl (Nat.le_of_ble_eq_true rfl) ⟨rfl, rfl, Nat.le_of_ble_eq_true rfl, Nat.le_of_ble_eq_true rfl⟩ dX2_wordsOf_17 ?_
        refine g_is cx (L2 := fun v6_11 => [(6, .int v6_11), (0, .ref (o 0)), (1, .ref (a1 0)), (2, .int x2), (3, .int x3), (4, .int x4), (5, .int v5)]) hf dX2_wordsOf_20 (Nat.le_of_ble_eq_true rfl) (fun _ => rfl) (fun v6_11 hf => ?_)
        refine g_ic cx dX2_wordsOf_22 k_ic0 ?_
        refine g_is cx (L2 := fun v7_12 => [(7, .int v7_12), (6, .int v6_11), (0, .ref (o 0)), (1, .ref (a1 0)), (2, .int x2), (3, .int x3), (4, .int x4), (5, .int v5)]) hf dX2_wordsOf_23 (Nat.le_of_ble_eq_true rfl) (fun _ => rfl) (fun v7_12 hf => ?_)
        refine g_ic cx dX2_wordsOf_25 k_ic0 ?_
        refine g_is cx (L2 := fun v8_13 => [(8, .int v8_13), (7, .int v7_12), (6, .int v6_11), (0, .ref (o 0)), (1, .ref (a1 0)), (2, .int x2), (3, .int x3), (4, .int x4), (5, .int v5)]) hf dX2_wordsOf_26 (Nat.le_of_ble_eq_true rfl) (fun _ => rfl) (fun v8_13 hf => ?_)
        refine g_sub [3, 4, 5, 6, 7, 8, 2, 1, 0] rfl ?_
        exact h28 _ ih fu _ _ _ _ _ hf
  rw [F_X2_wordsOf] at hf
  refine g_ic cx dX2_wordsOf_0 k_ic0 ?_
  refine g_is cx (L2 := fun v5_14 => [(5, .int v5_14), (0, .ref (o 0)), (1, .ref (a1 0)), (2, .int x2), (3, .int x3), (4, .int x4)]) hf dX2_wordsOf_1 (Nat.le_of_ble_eq_true rfl) (fun _ => rfl) (fun v5_14 hf => ?_)
  refine g_sub [1, 2, 3, 4, 5, 0] rfl ?_
  exact h3 fu _ _ hf
end
