-- ===== PART A: goes FIRST, ahead of the names: the tables' words, and 'selects' of the private methods out of them =====
/-- a private method of a class that the tables say can be made, by its rows of tables_1 -/
def lw_okq (q : MethodName × Nat) : Prop := (q.1.cls ≠ "java/lang/invoke/MethodHandle" ∧ q.1.cls ≠ "java/lang/invoke/VarHandle") ∧ Cond.instantiable q.1.cls q.2 ∈ tables_1 ∧ Cond.privateMethod q.1 ∈ tables_1 ∧ Cond.instanceMethod q.1 ∈ tables_1
theorem lw_p0 : lw_okq (⟨"TreeStream", "unused", "()LTreeStream$Machine;"⟩, 14) := ⟨⟨by decide +kernel, by decide +kernel⟩, List.mem_of_getElem? (i := 20) (by decide +kernel), List.mem_of_getElem? (i := 391) (by decide +kernel), List.mem_of_getElem? (i := 392) (by decide +kernel)⟩
theorem lw_p1 : lw_okq (⟨"TreeStream$Texts", "startRule", "(LTreeStream$Machine;)V"⟩, 3) := ⟨⟨by decide +kernel, by decide +kernel⟩, List.mem_of_getElem? (i := 59) (by decide +kernel), List.mem_of_getElem? (i := 483) (by decide +kernel), List.mem_of_getElem? (i := 484) (by decide +kernel)⟩
theorem lw_p2 : lw_okq (⟨"TreeStream$Texts", "readOpen", "(LTreeStream$Machine;)V"⟩, 3) := ⟨⟨by decide +kernel, by decide +kernel⟩, List.mem_of_getElem? (i := 59) (by decide +kernel), List.mem_of_getElem? (i := 494) (by decide +kernel), List.mem_of_getElem? (i := 495) (by decide +kernel)⟩
theorem lw_p3 : lw_okq (⟨"TreeStream$Texts", "readClose", "(LTreeStream$Machine;)V"⟩, 3) := ⟨⟨by decide +kernel, by decide +kernel⟩, List.mem_of_getElem? (i := 59) (by decide +kernel), List.mem_of_getElem? (i := 514) (by decide +kernel), List.mem_of_getElem? (i := 515) (by decide +kernel)⟩
theorem lw_p4 : lw_okq (⟨"TreeStream$Texts", "readExpression", "(LTreeStream$Machine;Z)V"⟩, 3) := ⟨⟨by decide +kernel, by decide +kernel⟩, List.mem_of_getElem? (i := 59) (by decide +kernel), List.mem_of_getElem? (i := 531) (by decide +kernel), List.mem_of_getElem? (i := 532) (by decide +kernel)⟩
theorem lw_p5 : lw_okq (⟨"TreeStream$Texts", "readElement", "(LTreeStream$Machine;)V"⟩, 3) := ⟨⟨by decide +kernel, by decide +kernel⟩, List.mem_of_getElem? (i := 59) (by decide +kernel), List.mem_of_getElem? (i := 539) (by decide +kernel), List.mem_of_getElem? (i := 540) (by decide +kernel)⟩
theorem lw_p6 : lw_okq (⟨"TreeStream$Texts", "readRegister", "(LTreeStream$Machine;I)V"⟩, 3) := ⟨⟨by decide +kernel, by decide +kernel⟩, List.mem_of_getElem? (i := 59) (by decide +kernel), List.mem_of_getElem? (i := 548) (by decide +kernel), List.mem_of_getElem? (i := 549) (by decide +kernel)⟩
theorem lw_p7 : lw_okq (⟨"TreeStream$Texts", "readEnd", "(LTreeStream$Machine;)V"⟩, 3) := ⟨⟨by decide +kernel, by decide +kernel⟩, List.mem_of_getElem? (i := 59) (by decide +kernel), List.mem_of_getElem? (i := 558) (by decide +kernel), List.mem_of_getElem? (i := 559) (by decide +kernel)⟩
theorem lw_p8 : lw_okq (⟨"TreeStream", "told", "(I)LTreeStream$Machine;"⟩, 14) := ⟨⟨by decide +kernel, by decide +kernel⟩, List.mem_of_getElem? (i := 20) (by decide +kernel), List.mem_of_getElem? (i := 611) (by decide +kernel), List.mem_of_getElem? (i := 612) (by decide +kernel)⟩
theorem lw_p9 : lw_okq (⟨"TreeStream", "toldMachines", "()I"⟩, 14) := ⟨⟨by decide +kernel, by decide +kernel⟩, List.mem_of_getElem? (i := 20) (by decide +kernel), List.mem_of_getElem? (i := 620) (by decide +kernel), List.mem_of_getElem? (i := 621) (by decide +kernel)⟩
theorem lw_p10 : lw_okq (⟨"TreeStream$Reader", "stepOut", "()Z"⟩, 9) := ⟨⟨by decide +kernel, by decide +kernel⟩, List.mem_of_getElem? (i := 93) (by decide +kernel), List.mem_of_getElem? (i := 664) (by decide +kernel), List.mem_of_getElem? (i := 665) (by decide +kernel)⟩
theorem lw_p11 : lw_okq (⟨"TreeStream$Reader", "putTogether", "(III)V"⟩, 9) := ⟨⟨by decide +kernel, by decide +kernel⟩, List.mem_of_getElem? (i := 93) (by decide +kernel), List.mem_of_getElem? (i := 673) (by decide +kernel), List.mem_of_getElem? (i := 674) (by decide +kernel)⟩
theorem lw_p12 : lw_okq (⟨"TreeStream$Reader", "join", "(III)V"⟩, 9) := ⟨⟨by decide +kernel, by decide +kernel⟩, List.mem_of_getElem? (i := 93) (by decide +kernel), List.mem_of_getElem? (i := 677) (by decide +kernel), List.mem_of_getElem? (i := 678) (by decide +kernel)⟩
theorem lw_p13 : lw_okq (⟨"TreeStream$Reader", "stepIn", "(I)Z"⟩, 9) := ⟨⟨by decide +kernel, by decide +kernel⟩, List.mem_of_getElem? (i := 93) (by decide +kernel), List.mem_of_getElem? (i := 681) (by decide +kernel), List.mem_of_getElem? (i := 682) (by decide +kernel)⟩
theorem lw_p14 : lw_okq (⟨"TreeStream$Ways", "measure", "(LTreeStream$Machine;)V"⟩, 3) := ⟨⟨by decide +kernel, by decide +kernel⟩, List.mem_of_getElem? (i := 139) (by decide +kernel), List.mem_of_getElem? (i := 786) (by decide +kernel), List.mem_of_getElem? (i := 787) (by decide +kernel)⟩
theorem lw_p15 : lw_okq (⟨"TreeStream$Ways", "shorten", "(LTreeStream$Machine;)Z"⟩, 3) := ⟨⟨by decide +kernel, by decide +kernel⟩, List.mem_of_getElem? (i := 139) (by decide +kernel), List.mem_of_getElem? (i := 797) (by decide +kernel), List.mem_of_getElem? (i := 798) (by decide +kernel)⟩
def lw_privs_1 : List (MethodName × Nat) := [(⟨"TreeStream", "unused", "()LTreeStream$Machine;"⟩, 14), (⟨"TreeStream$Texts", "startRule", "(LTreeStream$Machine;)V"⟩, 3), (⟨"TreeStream$Texts", "readOpen", "(LTreeStream$Machine;)V"⟩, 3), (⟨"TreeStream$Texts", "readClose", "(LTreeStream$Machine;)V"⟩, 3), (⟨"TreeStream$Texts", "readExpression", "(LTreeStream$Machine;Z)V"⟩, 3), (⟨"TreeStream$Texts", "readElement", "(LTreeStream$Machine;)V"⟩, 3), (⟨"TreeStream$Texts", "readRegister", "(LTreeStream$Machine;I)V"⟩, 3), (⟨"TreeStream$Texts", "readEnd", "(LTreeStream$Machine;)V"⟩, 3), (⟨"TreeStream", "told", "(I)LTreeStream$Machine;"⟩, 14), (⟨"TreeStream", "toldMachines", "()I"⟩, 14), (⟨"TreeStream$Reader", "stepOut", "()Z"⟩, 9), (⟨"TreeStream$Reader", "putTogether", "(III)V"⟩, 9), (⟨"TreeStream$Reader", "join", "(III)V"⟩, 9), (⟨"TreeStream$Reader", "stepIn", "(I)Z"⟩, 9), (⟨"TreeStream$Ways", "measure", "(LTreeStream$Machine;)V"⟩, 3), (⟨"TreeStream$Ways", "shorten", "(LTreeStream$Machine;)Z"⟩, 3)]
theorem lw_r1 : ∀ q ∈ lw_privs_1, lw_okq q := List.forall_mem_cons.mpr ⟨lw_p0, List.forall_mem_cons.mpr ⟨lw_p1, List.forall_mem_cons.mpr ⟨lw_p2, List.forall_mem_cons.mpr ⟨lw_p3, List.forall_mem_cons.mpr ⟨lw_p4, List.forall_mem_cons.mpr ⟨lw_p5, List.forall_mem_cons.mpr ⟨lw_p6, List.forall_mem_cons.mpr ⟨lw_p7, List.forall_mem_cons.mpr ⟨lw_p8, List.forall_mem_cons.mpr ⟨lw_p9, List.forall_mem_cons.mpr ⟨lw_p10, List.forall_mem_cons.mpr ⟨lw_p11, List.forall_mem_cons.mpr ⟨lw_p12, List.forall_mem_cons.mpr ⟨lw_p13, List.forall_mem_cons.mpr ⟨lw_p14, List.forall_mem_cons.mpr ⟨lw_p15, fun _ h => absurd h List.not_mem_nil⟩⟩⟩⟩⟩⟩⟩⟩⟩⟩⟩⟩⟩⟩⟩⟩
theorem lw_p16 : lw_okq (⟨"TreeStream$Ways", "shortenBy", "(IIJ)Z"⟩, 3) := ⟨⟨by decide +kernel, by decide +kernel⟩, List.mem_of_getElem? (i := 139) (by decide +kernel), List.mem_of_getElem? (i := 807) (by decide +kernel), List.mem_of_getElem? (i := 808) (by decide +kernel)⟩
theorem lw_p17 : lw_okq (⟨"TreeStream$Ways", "reachedFrom", "(LTreeStream$Machine;I)I"⟩, 3) := ⟨⟨by decide +kernel, by decide +kernel⟩, List.mem_of_getElem? (i := 139) (by decide +kernel), List.mem_of_getElem? (i := 811) (by decide +kernel), List.mem_of_getElem? (i := 812) (by decide +kernel)⟩
theorem lw_p18 : lw_okq (⟨"TreeStream$Ways", "countSingles", "(LTreeStream$Machine;I)V"⟩, 3) := ⟨⟨by decide +kernel, by decide +kernel⟩, List.mem_of_getElem? (i := 139) (by decide +kernel), List.mem_of_getElem? (i := 824) (by decide +kernel), List.mem_of_getElem? (i := 825) (by decide +kernel)⟩
theorem lw_p19 : lw_okq (⟨"TreeStream$Ways", "countRows", "(LTreeStream$Machine;II)V"⟩, 3) := ⟨⟨by decide +kernel, by decide +kernel⟩, List.mem_of_getElem? (i := 139) (by decide +kernel), List.mem_of_getElem? (i := 828) (by decide +kernel), List.mem_of_getElem? (i := 829) (by decide +kernel)⟩
theorem lw_p20 : lw_okq (⟨"TreeStream$Search", "prepare", "(LTreeStream$Machine;LTreeStream$Machine;Z)V"⟩, 7) := ⟨⟨by decide +kernel, by decide +kernel⟩, List.mem_of_getElem? (i := 166) (by decide +kernel), List.mem_of_getElem? (i := 852) (by decide +kernel), List.mem_of_getElem? (i := 853) (by decide +kernel)⟩
theorem lw_p21 : lw_okq (⟨"TreeStream$Search", "spoilt", "()Z"⟩, 7) := ⟨⟨by decide +kernel, by decide +kernel⟩, List.mem_of_getElem? (i := 166) (by decide +kernel), List.mem_of_getElem? (i := 860) (by decide +kernel), List.mem_of_getElem? (i := 861) (by decide +kernel)⟩
theorem lw_p22 : lw_okq (⟨"TreeStream$Search", "reads", "(LTreeStream$Reader;)Z"⟩, 7) := ⟨⟨by decide +kernel, by decide +kernel⟩, List.mem_of_getElem? (i := 166) (by decide +kernel), List.mem_of_getElem? (i := 864) (by decide +kernel), List.mem_of_getElem? (i := 865) (by decide +kernel)⟩
theorem lw_p23 : lw_okq (⟨"TreeStream$Search", "different", "()Z"⟩, 7) := ⟨⟨by decide +kernel, by decide +kernel⟩, List.mem_of_getElem? (i := 166) (by decide +kernel), List.mem_of_getElem? (i := 871) (by decide +kernel), List.mem_of_getElem? (i := 872) (by decide +kernel)⟩
theorem lw_p24 : lw_okq (⟨"TreeStream$Search", "hopeless", "()Z"⟩, 7) := ⟨⟨by decide +kernel, by decide +kernel⟩, List.mem_of_getElem? (i := 166) (by decide +kernel), List.mem_of_getElem? (i := 879) (by decide +kernel), List.mem_of_getElem? (i := 880) (by decide +kernel)⟩
theorem lw_p25 : lw_okq (⟨"TreeStream$Search", "goBack", "()I"⟩, 7) := ⟨⟨by decide +kernel, by decide +kernel⟩, List.mem_of_getElem? (i := 166) (by decide +kernel), List.mem_of_getElem? (i := 883) (by decide +kernel), List.mem_of_getElem? (i := 884) (by decide +kernel)⟩
theorem lw_p26 : lw_okq (⟨"TreeStream$Search", "go", "(I)V"⟩, 7) := ⟨⟨by decide +kernel, by decide +kernel⟩, List.mem_of_getElem? (i := 166) (by decide +kernel), List.mem_of_getElem? (i := 895) (by decide +kernel), List.mem_of_getElem? (i := 896) (by decide +kernel)⟩
theorem lw_p27 : lw_okq (⟨"TreeStream", "found", "(I)I"⟩, 14) := ⟨⟨by decide +kernel, by decide +kernel⟩, List.mem_of_getElem? (i := 20) (by decide +kernel), List.mem_of_getElem? (i := 901) (by decide +kernel), List.mem_of_getElem? (i := 902) (by decide +kernel)⟩
theorem lw_p28 : lw_okq (⟨"TreeStream$Safety", "start", "(LTreeStream$Machine;LTreeStream$Machine;)V"⟩, 12) := ⟨⟨by decide +kernel, by decide +kernel⟩, List.mem_of_getElem? (i := 194) (by decide +kernel), List.mem_of_getElem? (i := 917) (by decide +kernel), List.mem_of_getElem? (i := 918) (by decide +kernel)⟩
theorem lw_p29 : lw_okq (⟨"TreeStream$Safety", "note", "(III)V"⟩, 12) := ⟨⟨by decide +kernel, by decide +kernel⟩, List.mem_of_getElem? (i := 194) (by decide +kernel), List.mem_of_getElem? (i := 933) (by decide +kernel), List.mem_of_getElem? (i := 934) (by decide +kernel)⟩
theorem lw_p30 : lw_okq (⟨"TreeStream$Safety", "spoilsAtEnd", "(I)Z"⟩, 12) := ⟨⟨by decide +kernel, by decide +kernel⟩, List.mem_of_getElem? (i := 194) (by decide +kernel), List.mem_of_getElem? (i := 939) (by decide +kernel), List.mem_of_getElem? (i := 940) (by decide +kernel)⟩
theorem lw_p31 : lw_okq (⟨"TreeStream$Safety", "kindOf", "(III)I"⟩, 12) := ⟨⟨by decide +kernel, by decide +kernel⟩, List.mem_of_getElem? (i := 194) (by decide +kernel), List.mem_of_getElem? (i := 950) (by decide +kernel), List.mem_of_getElem? (i := 951) (by decide +kernel)⟩
def lw_privs_2 : List (MethodName × Nat) := [(⟨"TreeStream$Ways", "shortenBy", "(IIJ)Z"⟩, 3), (⟨"TreeStream$Ways", "reachedFrom", "(LTreeStream$Machine;I)I"⟩, 3), (⟨"TreeStream$Ways", "countSingles", "(LTreeStream$Machine;I)V"⟩, 3), (⟨"TreeStream$Ways", "countRows", "(LTreeStream$Machine;II)V"⟩, 3), (⟨"TreeStream$Search", "prepare", "(LTreeStream$Machine;LTreeStream$Machine;Z)V"⟩, 7), (⟨"TreeStream$Search", "spoilt", "()Z"⟩, 7), (⟨"TreeStream$Search", "reads", "(LTreeStream$Reader;)Z"⟩, 7), (⟨"TreeStream$Search", "different", "()Z"⟩, 7), (⟨"TreeStream$Search", "hopeless", "()Z"⟩, 7), (⟨"TreeStream$Search", "goBack", "()I"⟩, 7), (⟨"TreeStream$Search", "go", "(I)V"⟩, 7), (⟨"TreeStream", "found", "(I)I"⟩, 14), (⟨"TreeStream$Safety", "start", "(LTreeStream$Machine;LTreeStream$Machine;)V"⟩, 12), (⟨"TreeStream$Safety", "note", "(III)V"⟩, 12), (⟨"TreeStream$Safety", "spoilsAtEnd", "(I)Z"⟩, 12), (⟨"TreeStream$Safety", "kindOf", "(III)I"⟩, 12)]
theorem lw_r2 : ∀ q ∈ lw_privs_2, lw_okq q := List.forall_mem_cons.mpr ⟨lw_p16, List.forall_mem_cons.mpr ⟨lw_p17, List.forall_mem_cons.mpr ⟨lw_p18, List.forall_mem_cons.mpr ⟨lw_p19, List.forall_mem_cons.mpr ⟨lw_p20, List.forall_mem_cons.mpr ⟨lw_p21, List.forall_mem_cons.mpr ⟨lw_p22, List.forall_mem_cons.mpr ⟨lw_p23, List.forall_mem_cons.mpr ⟨lw_p24, List.forall_mem_cons.mpr ⟨lw_p25, List.forall_mem_cons.mpr ⟨lw_p26, List.forall_mem_cons.mpr ⟨lw_p27, List.forall_mem_cons.mpr ⟨lw_p28, List.forall_mem_cons.mpr ⟨lw_p29, List.forall_mem_cons.mpr ⟨lw_p30, List.forall_mem_cons.mpr ⟨lw_p31, fun _ h => absurd h List.not_mem_nil⟩⟩⟩⟩⟩⟩⟩⟩⟩⟩⟩⟩⟩⟩⟩⟩
theorem lw_p32 : lw_okq (⟨"TreeStream$Safety", "asOuter", "(I)V"⟩, 12) := ⟨⟨by decide +kernel, by decide +kernel⟩, List.mem_of_getElem? (i := 194) (by decide +kernel), List.mem_of_getElem? (i := 964) (by decide +kernel), List.mem_of_getElem? (i := 965) (by decide +kernel)⟩
theorem lw_p33 : lw_okq (⟨"TreeStream$Safety", "nest", "(III)V"⟩, 12) := ⟨⟨by decide +kernel, by decide +kernel⟩, List.mem_of_getElem? (i := 194) (by decide +kernel), List.mem_of_getElem? (i := 970) (by decide +kernel), List.mem_of_getElem? (i := 971) (by decide +kernel)⟩
theorem lw_p34 : lw_okq (⟨"TreeStream$Safety", "asInner", "(I)V"⟩, 12) := ⟨⟨by decide +kernel, by decide +kernel⟩, List.mem_of_getElem? (i := 194) (by decide +kernel), List.mem_of_getElem? (i := 976) (by decide +kernel), List.mem_of_getElem? (i := 977) (by decide +kernel)⟩
theorem lw_p35 : lw_okq (⟨"TreeStreamModel", "put", "(I)V"⟩, 63) := ⟨⟨by decide +kernel, by decide +kernel⟩, List.mem_of_getElem? (i := 980) (by decide +kernel), List.mem_of_getElem? (i := 1180) (by decide +kernel), List.mem_of_getElem? (i := 1181) (by decide +kernel)⟩
theorem lw_p36 : lw_okq (⟨"TreeStreamModel", "begins", "()V"⟩, 63) := ⟨⟨by decide +kernel, by decide +kernel⟩, List.mem_of_getElem? (i := 980) (by decide +kernel), List.mem_of_getElem? (i := 1195) (by decide +kernel), List.mem_of_getElem? (i := 1196) (by decide +kernel)⟩
theorem lw_p37 : lw_okq (⟨"TreeStreamModel", "goes", "()V"⟩, 63) := ⟨⟨by decide +kernel, by decide +kernel⟩, List.mem_of_getElem? (i := 980) (by decide +kernel), List.mem_of_getElem? (i := 1199) (by decide +kernel), List.mem_of_getElem? (i := 1200) (by decide +kernel)⟩
theorem lw_p38 : lw_okq (⟨"TreeStreamModel", "clears", "(I)V"⟩, 63) := ⟨⟨by decide +kernel, by decide +kernel⟩, List.mem_of_getElem? (i := 980) (by decide +kernel), List.mem_of_getElem? (i := 1209) (by decide +kernel), List.mem_of_getElem? (i := 1210) (by decide +kernel)⟩
theorem lw_p39 : lw_okq (⟨"TreeStreamModel", "isWord", "(Ljava/lang/String;)Z"⟩, 63) := ⟨⟨by decide +kernel, by decide +kernel⟩, List.mem_of_getElem? (i := 980) (by decide +kernel), List.mem_of_getElem? (i := 1214) (by decide +kernel), List.mem_of_getElem? (i := 1215) (by decide +kernel)⟩
theorem lw_p40 : lw_okq (⟨"TreeStreamModel", "isGood", "()Z"⟩, 63) := ⟨⟨by decide +kernel, by decide +kernel⟩, List.mem_of_getElem? (i := 980) (by decide +kernel), List.mem_of_getElem? (i := 1218) (by decide +kernel), List.mem_of_getElem? (i := 1219) (by decide +kernel)⟩
theorem lw_p41 : lw_okq (⟨"TreeStreamModel", "fails", "(I)V"⟩, 63) := ⟨⟨by decide +kernel, by decide +kernel⟩, List.mem_of_getElem? (i := 980) (by decide +kernel), List.mem_of_getElem? (i := 1224) (by decide +kernel), List.mem_of_getElem? (i := 1225) (by decide +kernel)⟩
theorem lw_p42 : lw_okq (⟨"TreeStreamModel", "number", "(II)I"⟩, 63) := ⟨⟨by decide +kernel, by decide +kernel⟩, List.mem_of_getElem? (i := 980) (by decide +kernel), List.mem_of_getElem? (i := 1228) (by decide +kernel), List.mem_of_getElem? (i := 1229) (by decide +kernel)⟩
theorem lw_p43 : lw_okq (⟨"TreeStreamModel", "digit", "(II)I"⟩, 63) := ⟨⟨by decide +kernel, by decide +kernel⟩, List.mem_of_getElem? (i := 980) (by decide +kernel), List.mem_of_getElem? (i := 1232) (by decide +kernel), List.mem_of_getElem? (i := 1233) (by decide +kernel)⟩
theorem lw_p44 : lw_okq (⟨"TreeStreamModel", "isSign", "(I)Z"⟩, 63) := ⟨⟨by decide +kernel, by decide +kernel⟩, List.mem_of_getElem? (i := 980) (by decide +kernel), List.mem_of_getElem? (i := 1236) (by decide +kernel), List.mem_of_getElem? (i := 1237) (by decide +kernel)⟩
theorem lw_p45 : lw_okq (⟨"TreeStreamModel", "rule", "()V"⟩, 63) := ⟨⟨by decide +kernel, by decide +kernel⟩, List.mem_of_getElem? (i := 980) (by decide +kernel), List.mem_of_getElem? (i := 1240) (by decide +kernel), List.mem_of_getElem? (i := 1241) (by decide +kernel)⟩
theorem lw_p46 : lw_okq (⟨"TreeStreamModel", "openRule", "()V"⟩, 63) := ⟨⟨by decide +kernel, by decide +kernel⟩, List.mem_of_getElem? (i := 980) (by decide +kernel), List.mem_of_getElem? (i := 1247) (by decide +kernel), List.mem_of_getElem? (i := 1248) (by decide +kernel)⟩
theorem lw_p47 : lw_okq (⟨"TreeStreamModel", "letter", "()I"⟩, 63) := ⟨⟨by decide +kernel, by decide +kernel⟩, List.mem_of_getElem? (i := 980) (by decide +kernel), List.mem_of_getElem? (i := 1251) (by decide +kernel), List.mem_of_getElem? (i := 1252) (by decide +kernel)⟩
def lw_privs_3 : List (MethodName × Nat) := [(⟨"TreeStream$Safety", "asOuter", "(I)V"⟩, 12), (⟨"TreeStream$Safety", "nest", "(III)V"⟩, 12), (⟨"TreeStream$Safety", "asInner", "(I)V"⟩, 12), (⟨"TreeStreamModel", "put", "(I)V"⟩, 63), (⟨"TreeStreamModel", "begins", "()V"⟩, 63), (⟨"TreeStreamModel", "goes", "()V"⟩, 63), (⟨"TreeStreamModel", "clears", "(I)V"⟩, 63), (⟨"TreeStreamModel", "isWord", "(Ljava/lang/String;)Z"⟩, 63), (⟨"TreeStreamModel", "isGood", "()Z"⟩, 63), (⟨"TreeStreamModel", "fails", "(I)V"⟩, 63), (⟨"TreeStreamModel", "number", "(II)I"⟩, 63), (⟨"TreeStreamModel", "digit", "(II)I"⟩, 63), (⟨"TreeStreamModel", "isSign", "(I)Z"⟩, 63), (⟨"TreeStreamModel", "rule", "()V"⟩, 63), (⟨"TreeStreamModel", "openRule", "()V"⟩, 63), (⟨"TreeStreamModel", "letter", "()I"⟩, 63)]
theorem lw_r3 : ∀ q ∈ lw_privs_3, lw_okq q := List.forall_mem_cons.mpr ⟨lw_p32, List.forall_mem_cons.mpr ⟨lw_p33, List.forall_mem_cons.mpr ⟨lw_p34, List.forall_mem_cons.mpr ⟨lw_p35, List.forall_mem_cons.mpr ⟨lw_p36, List.forall_mem_cons.mpr ⟨lw_p37, List.forall_mem_cons.mpr ⟨lw_p38, List.forall_mem_cons.mpr ⟨lw_p39, List.forall_mem_cons.mpr ⟨lw_p40, List.forall_mem_cons.mpr ⟨lw_p41, List.forall_mem_cons.mpr ⟨lw_p42, List.forall_mem_cons.mpr ⟨lw_p43, List.forall_mem_cons.mpr ⟨lw_p44, List.forall_mem_cons.mpr ⟨lw_p45, List.forall_mem_cons.mpr ⟨lw_p46, List.forall_mem_cons.mpr ⟨lw_p47, fun _ h => absurd h List.not_mem_nil⟩⟩⟩⟩⟩⟩⟩⟩⟩⟩⟩⟩⟩⟩⟩⟩
theorem lw_p48 : lw_okq (⟨"TreeStreamModel", "closeRule", "(I)V"⟩, 63) := ⟨⟨by decide +kernel, by decide +kernel⟩, List.mem_of_getElem? (i := 980) (by decide +kernel), List.mem_of_getElem? (i := 1261) (by decide +kernel), List.mem_of_getElem? (i := 1262) (by decide +kernel)⟩
theorem lw_p49 : lw_okq (⟨"TreeStreamModel", "sign", "(I)V"⟩, 63) := ⟨⟨by decide +kernel, by decide +kernel⟩, List.mem_of_getElem? (i := 980) (by decide +kernel), List.mem_of_getElem? (i := 1268) (by decide +kernel), List.mem_of_getElem? (i := 1269) (by decide +kernel)⟩
theorem lw_p50 : lw_okq (⟨"TreeStreamModel", "expression", "(IIZ)V"⟩, 63) := ⟨⟨by decide +kernel, by decide +kernel⟩, List.mem_of_getElem? (i := 980) (by decide +kernel), List.mem_of_getElem? (i := 1272) (by decide +kernel), List.mem_of_getElem? (i := 1273) (by decide +kernel)⟩
theorem lw_p51 : lw_okq (⟨"TreeStreamModel", "parts", "(IZ)V"⟩, 63) := ⟨⟨by decide +kernel, by decide +kernel⟩, List.mem_of_getElem? (i := 980) (by decide +kernel), List.mem_of_getElem? (i := 1276) (by decide +kernel), List.mem_of_getElem? (i := 1277) (by decide +kernel)⟩
theorem lw_p52 : lw_okq (⟨"TreeStreamModel", "register", "(Z)V"⟩, 63) := ⟨⟨by decide +kernel, by decide +kernel⟩, List.mem_of_getElem? (i := 980) (by decide +kernel), List.mem_of_getElem? (i := 1282) (by decide +kernel), List.mem_of_getElem? (i := 1283) (by decide +kernel)⟩
theorem lw_p53 : lw_okq (⟨"TreeStreamModel", "emits", "(I)V"⟩, 63) := ⟨⟨by decide +kernel, by decide +kernel⟩, List.mem_of_getElem? (i := 980) (by decide +kernel), List.mem_of_getElem? (i := 1286) (by decide +kernel), List.mem_of_getElem? (i := 1287) (by decide +kernel)⟩
theorem lw_p54 : lw_okq (⟨"TreeStreamModel", "element", "(IZ)V"⟩, 63) := ⟨⟨by decide +kernel, by decide +kernel⟩, List.mem_of_getElem? (i := 980) (by decide +kernel), List.mem_of_getElem? (i := 1290) (by decide +kernel), List.mem_of_getElem? (i := 1291) (by decide +kernel)⟩
theorem lw_p55 : lw_okq (⟨"TreeStreamModel", "endsRule", "(I)V"⟩, 63) := ⟨⟨by decide +kernel, by decide +kernel⟩, List.mem_of_getElem? (i := 980) (by decide +kernel), List.mem_of_getElem? (i := 1294) (by decide +kernel), List.mem_of_getElem? (i := 1295) (by decide +kernel)⟩
theorem lw_p56 : lw_okq (⟨"TreeStreamModel", "copies", "(II)V"⟩, 63) := ⟨⟨by decide +kernel, by decide +kernel⟩, List.mem_of_getElem? (i := 980) (by decide +kernel), List.mem_of_getElem? (i := 1298) (by decide +kernel), List.mem_of_getElem? (i := 1299) (by decide +kernel)⟩
theorem lw_p57 : lw_okq (⟨"TreeStreamModel", "readsElement", "()V"⟩, 63) := ⟨⟨by decide +kernel, by decide +kernel⟩, List.mem_of_getElem? (i := 980) (by decide +kernel), List.mem_of_getElem? (i := 1306) (by decide +kernel), List.mem_of_getElem? (i := 1307) (by decide +kernel)⟩
theorem lw_p58 : lw_okq (⟨"TreeStreamModel", "isMachine", "(I)Z"⟩, 63) := ⟨⟨by decide +kernel, by decide +kernel⟩, List.mem_of_getElem? (i := 980) (by decide +kernel), List.mem_of_getElem? (i := 1318) (by decide +kernel), List.mem_of_getElem? (i := 1319) (by decide +kernel)⟩
theorem lw_p59 : lw_okq (⟨"TreeStreamModel", "mostOwn", "(IZZ)I"⟩, 63) := ⟨⟨by decide +kernel, by decide +kernel⟩, List.mem_of_getElem? (i := 980) (by decide +kernel), List.mem_of_getElem? (i := 1325) (by decide +kernel), List.mem_of_getElem? (i := 1326) (by decide +kernel)⟩
theorem lw_p60 : lw_okq (⟨"TreeStreamModel", "machines", "()I"⟩, 63) := ⟨⟨by decide +kernel, by decide +kernel⟩, List.mem_of_getElem? (i := 980) (by decide +kernel), List.mem_of_getElem? (i := 1334) (by decide +kernel), List.mem_of_getElem? (i := 1335) (by decide +kernel)⟩
theorem lw_p61 : lw_okq (⟨"TreeStreamModel", "heldBy", "(I)I"⟩, 63) := ⟨⟨by decide +kernel, by decide +kernel⟩, List.mem_of_getElem? (i := 980) (by decide +kernel), List.mem_of_getElem? (i := 1341) (by decide +kernel), List.mem_of_getElem? (i := 1342) (by decide +kernel)⟩
theorem lw_p62 : lw_okq (⟨"TreeStreamModel", "starts", "(I)V"⟩, 63) := ⟨⟨by decide +kernel, by decide +kernel⟩, List.mem_of_getElem? (i := 980) (by decide +kernel), List.mem_of_getElem? (i := 1357) (by decide +kernel), List.mem_of_getElem? (i := 1358) (by decide +kernel)⟩
theorem lw_p63 : lw_okq (⟨"TreeStreamModel", "empties", "(I)V"⟩, 63) := ⟨⟨by decide +kernel, by decide +kernel⟩, List.mem_of_getElem? (i := 980) (by decide +kernel), List.mem_of_getElem? (i := 1361) (by decide +kernel), List.mem_of_getElem? (i := 1362) (by decide +kernel)⟩
def lw_privs_4 : List (MethodName × Nat) := [(⟨"TreeStreamModel", "closeRule", "(I)V"⟩, 63), (⟨"TreeStreamModel", "sign", "(I)V"⟩, 63), (⟨"TreeStreamModel", "expression", "(IIZ)V"⟩, 63), (⟨"TreeStreamModel", "parts", "(IZ)V"⟩, 63), (⟨"TreeStreamModel", "register", "(Z)V"⟩, 63), (⟨"TreeStreamModel", "emits", "(I)V"⟩, 63), (⟨"TreeStreamModel", "element", "(IZ)V"⟩, 63), (⟨"TreeStreamModel", "endsRule", "(I)V"⟩, 63), (⟨"TreeStreamModel", "copies", "(II)V"⟩, 63), (⟨"TreeStreamModel", "readsElement", "()V"⟩, 63), (⟨"TreeStreamModel", "isMachine", "(I)Z"⟩, 63), (⟨"TreeStreamModel", "mostOwn", "(IZZ)I"⟩, 63), (⟨"TreeStreamModel", "machines", "()I"⟩, 63), (⟨"TreeStreamModel", "heldBy", "(I)I"⟩, 63), (⟨"TreeStreamModel", "starts", "(I)V"⟩, 63), (⟨"TreeStreamModel", "empties", "(I)V"⟩, 63)]
theorem lw_r4 : ∀ q ∈ lw_privs_4, lw_okq q := List.forall_mem_cons.mpr ⟨lw_p48, List.forall_mem_cons.mpr ⟨lw_p49, List.forall_mem_cons.mpr ⟨lw_p50, List.forall_mem_cons.mpr ⟨lw_p51, List.forall_mem_cons.mpr ⟨lw_p52, List.forall_mem_cons.mpr ⟨lw_p53, List.forall_mem_cons.mpr ⟨lw_p54, List.forall_mem_cons.mpr ⟨lw_p55, List.forall_mem_cons.mpr ⟨lw_p56, List.forall_mem_cons.mpr ⟨lw_p57, List.forall_mem_cons.mpr ⟨lw_p58, List.forall_mem_cons.mpr ⟨lw_p59, List.forall_mem_cons.mpr ⟨lw_p60, List.forall_mem_cons.mpr ⟨lw_p61, List.forall_mem_cons.mpr ⟨lw_p62, List.forall_mem_cons.mpr ⟨lw_p63, fun _ h => absurd h List.not_mem_nil⟩⟩⟩⟩⟩⟩⟩⟩⟩⟩⟩⟩⟩⟩⟩⟩
theorem lw_p64 : lw_okq (⟨"TreeStreamModel", "reads", "(III)Z"⟩, 63) := ⟨⟨by decide +kernel, by decide +kernel⟩, List.mem_of_getElem? (i := 980) (by decide +kernel), List.mem_of_getElem? (i := 1369) (by decide +kernel), List.mem_of_getElem? (i := 1370) (by decide +kernel)⟩
theorem lw_p65 : lw_okq (⟨"TreeStreamModel", "closes", "(II)Z"⟩, 63) := ⟨⟨by decide +kernel, by decide +kernel⟩, List.mem_of_getElem? (i := 980) (by decide +kernel), List.mem_of_getElem? (i := 1373) (by decide +kernel), List.mem_of_getElem? (i := 1374) (by decide +kernel)⟩
theorem lw_p66 : lw_okq (⟨"TreeStreamModel", "makes", "(IIII)V"⟩, 63) := ⟨⟨by decide +kernel, by decide +kernel⟩, List.mem_of_getElem? (i := 980) (by decide +kernel), List.mem_of_getElem? (i := 1377) (by decide +kernel), List.mem_of_getElem? (i := 1378) (by decide +kernel)⟩
theorem lw_p67 : lw_okq (⟨"TreeStreamModel", "adds", "(III)V"⟩, 63) := ⟨⟨by decide +kernel, by decide +kernel⟩, List.mem_of_getElem? (i := 980) (by decide +kernel), List.mem_of_getElem? (i := 1381) (by decide +kernel), List.mem_of_getElem? (i := 1382) (by decide +kernel)⟩
theorem lw_p68 : lw_okq (⟨"TreeStreamModel", "opens", "(III)Z"⟩, 63) := ⟨⟨by decide +kernel, by decide +kernel⟩, List.mem_of_getElem? (i := 980) (by decide +kernel), List.mem_of_getElem? (i := 1385) (by decide +kernel), List.mem_of_getElem? (i := 1386) (by decide +kernel)⟩
theorem lw_p69 : lw_okq (⟨"TreeStreamModel", "canEnd", "(II)Z"⟩, 63) := ⟨⟨by decide +kernel, by decide +kernel⟩, List.mem_of_getElem? (i := 980) (by decide +kernel), List.mem_of_getElem? (i := 1401) (by decide +kernel), List.mem_of_getElem? (i := 1402) (by decide +kernel)⟩
theorem lw_p70 : lw_okq (⟨"TreeStreamModel", "writes", "(II[I)I"⟩, 63) := ⟨⟨by decide +kernel, by decide +kernel⟩, List.mem_of_getElem? (i := 980) (by decide +kernel), List.mem_of_getElem? (i := 1405) (by decide +kernel), List.mem_of_getElem? (i := 1406) (by decide +kernel)⟩
theorem lw_p71 : lw_okq (⟨"TreeStreamModel", "refusedAt", "(II[II)I"⟩, 63) := ⟨⟨by decide +kernel, by decide +kernel⟩, List.mem_of_getElem? (i := 980) (by decide +kernel), List.mem_of_getElem? (i := 1413) (by decide +kernel), List.mem_of_getElem? (i := 1414) (by decide +kernel)⟩
theorem lw_p72 : lw_okq (⟨"TreeStreamModel", "isReadBy", "(II[II)Z"⟩, 63) := ⟨⟨by decide +kernel, by decide +kernel⟩, List.mem_of_getElem? (i := 980) (by decide +kernel), List.mem_of_getElem? (i := 1421) (by decide +kernel), List.mem_of_getElem? (i := 1422) (by decide +kernel)⟩
theorem lw_p73 : lw_okq (⟨"TreeStreamModel", "laysLeast", "(I)V"⟩, 63) := ⟨⟨by decide +kernel, by decide +kernel⟩, List.mem_of_getElem? (i := 980) (by decide +kernel), List.mem_of_getElem? (i := 1445) (by decide +kernel), List.mem_of_getElem? (i := 1446) (by decide +kernel)⟩
theorem lw_p74 : lw_okq (⟨"TreeStreamModel", "lets", "(IIII)Z"⟩, 63) := ⟨⟨by decide +kernel, by decide +kernel⟩, List.mem_of_getElem? (i := 980) (by decide +kernel), List.mem_of_getElem? (i := 1450) (by decide +kernel), List.mem_of_getElem? (i := 1451) (by decide +kernel)⟩
theorem lw_p75 : lw_okq (⟨"TreeStreamModel", "rowsOf", "(IIII)J"⟩, 63) := ⟨⟨by decide +kernel, by decide +kernel⟩, List.mem_of_getElem? (i := 980) (by decide +kernel), List.mem_of_getElem? (i := 1459) (by decide +kernel), List.mem_of_getElem? (i := 1460) (by decide +kernel)⟩
theorem lw_p76 : lw_okq (⟨"TreeStreamModel", "found", "(IIIZ)I"⟩, 63) := ⟨⟨by decide +kernel, by decide +kernel⟩, List.mem_of_getElem? (i := 980) (by decide +kernel), List.mem_of_getElem? (i := 1472) (by decide +kernel), List.mem_of_getElem? (i := 1473) (by decide +kernel)⟩
theorem lw_p77 : lw_okq (⟨"TreeStreamModel", "finds", "(IIZIII)Z"⟩, 63) := ⟨⟨by decide +kernel, by decide +kernel⟩, List.mem_of_getElem? (i := 980) (by decide +kernel), List.mem_of_getElem? (i := 1476) (by decide +kernel), List.mem_of_getElem? (i := 1477) (by decide +kernel)⟩
theorem lw_p78 : lw_okq (⟨"TreeStreamModel", "isSpoilt", "(III)Z"⟩, 63) := ⟨⟨by decide +kernel, by decide +kernel⟩, List.mem_of_getElem? (i := 980) (by decide +kernel), List.mem_of_getElem? (i := 1480) (by decide +kernel), List.mem_of_getElem? (i := 1481) (by decide +kernel)⟩
theorem lw_p79 : lw_okq (⟨"TreeStreamModel", "isUnlike", "(III)Z"⟩, 63) := ⟨⟨by decide +kernel, by decide +kernel⟩, List.mem_of_getElem? (i := 980) (by decide +kernel), List.mem_of_getElem? (i := 1484) (by decide +kernel), List.mem_of_getElem? (i := 1485) (by decide +kernel)⟩
def lw_privs_5 : List (MethodName × Nat) := [(⟨"TreeStreamModel", "reads", "(III)Z"⟩, 63), (⟨"TreeStreamModel", "closes", "(II)Z"⟩, 63), (⟨"TreeStreamModel", "makes", "(IIII)V"⟩, 63), (⟨"TreeStreamModel", "adds", "(III)V"⟩, 63), (⟨"TreeStreamModel", "opens", "(III)Z"⟩, 63), (⟨"TreeStreamModel", "canEnd", "(II)Z"⟩, 63), (⟨"TreeStreamModel", "writes", "(II[I)I"⟩, 63), (⟨"TreeStreamModel", "refusedAt", "(II[II)I"⟩, 63), (⟨"TreeStreamModel", "isReadBy", "(II[II)Z"⟩, 63), (⟨"TreeStreamModel", "laysLeast", "(I)V"⟩, 63), (⟨"TreeStreamModel", "lets", "(IIII)Z"⟩, 63), (⟨"TreeStreamModel", "rowsOf", "(IIII)J"⟩, 63), (⟨"TreeStreamModel", "found", "(IIIZ)I"⟩, 63), (⟨"TreeStreamModel", "finds", "(IIZIII)Z"⟩, 63), (⟨"TreeStreamModel", "isSpoilt", "(III)Z"⟩, 63), (⟨"TreeStreamModel", "isUnlike", "(III)Z"⟩, 63)]
theorem lw_r5 : ∀ q ∈ lw_privs_5, lw_okq q := List.forall_mem_cons.mpr ⟨lw_p64, List.forall_mem_cons.mpr ⟨lw_p65, List.forall_mem_cons.mpr ⟨lw_p66, List.forall_mem_cons.mpr ⟨lw_p67, List.forall_mem_cons.mpr ⟨lw_p68, List.forall_mem_cons.mpr ⟨lw_p69, List.forall_mem_cons.mpr ⟨lw_p70, List.forall_mem_cons.mpr ⟨lw_p71, List.forall_mem_cons.mpr ⟨lw_p72, List.forall_mem_cons.mpr ⟨lw_p73, List.forall_mem_cons.mpr ⟨lw_p74, List.forall_mem_cons.mpr ⟨lw_p75, List.forall_mem_cons.mpr ⟨lw_p76, List.forall_mem_cons.mpr ⟨lw_p77, List.forall_mem_cons.mpr ⟨lw_p78, List.forall_mem_cons.mpr ⟨lw_p79, fun _ h => absurd h List.not_mem_nil⟩⟩⟩⟩⟩⟩⟩⟩⟩⟩⟩⟩⟩⟩⟩⟩
theorem lw_p80 : lw_okq (⟨"TreeStreamModel", "goesOn", "(IIII)Z"⟩, 63) := ⟨⟨by decide +kernel, by decide +kernel⟩, List.mem_of_getElem? (i := 980) (by decide +kernel), List.mem_of_getElem? (i := 1496) (by decide +kernel), List.mem_of_getElem? (i := 1497) (by decide +kernel)⟩
theorem lw_p81 : lw_okq (⟨"TreeStreamModel", "adds", "(IIIIII)Z"⟩, 63) := ⟨⟨by decide +kernel, by decide +kernel⟩, List.mem_of_getElem? (i := 980) (by decide +kernel), List.mem_of_getElem? (i := 1500) (by decide +kernel), List.mem_of_getElem? (i := 1501) (by decide +kernel)⟩
theorem lw_p82 : lw_okq (⟨"TreeStreamModel", "does", "(IIII)I"⟩, 63) := ⟨⟨by decide +kernel, by decide +kernel⟩, List.mem_of_getElem? (i := 980) (by decide +kernel), List.mem_of_getElem? (i := 1504) (by decide +kernel), List.mem_of_getElem? (i := 1505) (by decide +kernel)⟩
theorem lw_p83 : lw_okq (⟨"TreeStreamModel", "within", "(IIII)I"⟩, 63) := ⟨⟨by decide +kernel, by decide +kernel⟩, List.mem_of_getElem? (i := 980) (by decide +kernel), List.mem_of_getElem? (i := 1514) (by decide +kernel), List.mem_of_getElem? (i := 1515) (by decide +kernel)⟩
theorem lw_p84 : lw_okq (⟨"TreeStreamModel", "isSpoiltHere", "(III)Z"⟩, 63) := ⟨⟨by decide +kernel, by decide +kernel⟩, List.mem_of_getElem? (i := 980) (by decide +kernel), List.mem_of_getElem? (i := 1518) (by decide +kernel), List.mem_of_getElem? (i := 1519) (by decide +kernel)⟩
def lw_privs_6 : List (MethodName × Nat) := [(⟨"TreeStreamModel", "goesOn", "(IIII)Z"⟩, 63), (⟨"TreeStreamModel", "adds", "(IIIIII)Z"⟩, 63), (⟨"TreeStreamModel", "does", "(IIII)I"⟩, 63), (⟨"TreeStreamModel", "within", "(IIII)I"⟩, 63), (⟨"TreeStreamModel", "isSpoiltHere", "(III)Z"⟩, 63)]
theorem lw_r6 : ∀ q ∈ lw_privs_6, lw_okq q := List.forall_mem_cons.mpr ⟨lw_p80, List.forall_mem_cons.mpr ⟨lw_p81, List.forall_mem_cons.mpr ⟨lw_p82, List.forall_mem_cons.mpr ⟨lw_p83, List.forall_mem_cons.mpr ⟨lw_p84, fun _ h => absurd h List.not_mem_nil⟩⟩⟩⟩⟩
def lw_privs : List (MethodName × Nat) := lw_privs_1 ++ (lw_privs_2 ++ (lw_privs_3 ++ (lw_privs_4 ++ (lw_privs_5 ++ (lw_privs_6)))))
def lw_tbl : List Cond := k2_sels lw_privs ++ tables_1
theorem lw_privs_ok : ∀ q ∈ lw_privs, lw_okq q := by
  show ∀ q ∈ lw_privs_1 ++ (lw_privs_2 ++ (lw_privs_3 ++ (lw_privs_4 ++ (lw_privs_5 ++ (lw_privs_6))))), lw_okq q
  exact List.forall_mem_append.mpr ⟨lw_r1, List.forall_mem_append.mpr ⟨lw_r2, List.forall_mem_append.mpr ⟨lw_r3, List.forall_mem_append.mpr ⟨lw_r4, List.forall_mem_append.mpr ⟨lw_r5, lw_r6⟩⟩⟩⟩⟩
-- names: classes, their fields, methods
def RX0 : String := "TreeStream$Events"
def TX0 : u_T := fun k => match k with
  | 0 => ("TreeStream$Events", "signs", "[I", true)
  | _ => ("TreeStream$Events", "size", "I", false)
def tyX0 : Nat → FieldType := fun k => match k with
  | 0 => .array .int
  | _ => .int
theorem nmX0 : ∀ a, a < 2 → ∀ b, b < 2 → a ≠ b → (TX0 a).2.1 ≠ (TX0 b).2.1 := by decide +kernel
theorem tyX0_ok : ∀ k, k < 2 → parseFieldDescriptor (TX0 k).2.2.1 = some (tyX0 k) := by decide +kernel
def RX1 : String := "TreeStream$Kinds"
def TX1 : u_T := fun k => match k with
  | 0 => ("TreeStream$Kinds", "joined", "[I", true)
  | _ => ("TreeStream$Kinds", "around", "[I", true)
def tyX1 : Nat → FieldType := fun k => match k with
  | 0 => .array .int
  | _ => .array .int
theorem nmX1 : ∀ a, a < 2 → ∀ b, b < 2 → a ≠ b → (TX1 a).2.1 ≠ (TX1 b).2.1 := by decide +kernel
theorem tyX1_ok : ∀ k, k < 2 → parseFieldDescriptor (TX1 k).2.2.1 = some (tyX1 k) := by decide +kernel
def RX2 : String := "TreeStream$Machine"
def TX2 : u_T := fun k => match k with
  | 0 => ("TreeStream$Machine", "states", "I", false)
  | 1 => ("TreeStream$Machine", "registers", "I", false)
  | 2 => ("TreeStream$Machine", "openRules", "I", false)
  | 3 => ("TreeStream$Machine", "closeRules", "I", false)
  | 4 => ("TreeStream$Machine", "endRules", "I", false)
  | 5 => ("TreeStream$Machine", "mostOfClose", "I", false)
  | 6 => ("TreeStream$Machine", "mostOfEnd", "I", false)
  | 7 => ("TreeStream$Machine", "openTo", "[I", true)
  | 8 => ("TreeStream$Machine", "openLays", "[I", true)
  | 9 => ("TreeStream$Machine", "closeTo", "[I", true)
  | 10 => ("TreeStream$Machine", "closeTells", "[I", true)
  | 11 => ("TreeStream$Machine", "endTells", "[I", true)
  | 12 => ("TreeStream$Machine", "signs", "[I", true)
  | 13 => ("TreeStream$Machine", "starts", "[I", true)
  | 14 => ("TreeStream$Machine", "expressions", "I", false)
  | _ => ("TreeStream$Machine", "signCount", "I", false)
def tyX2 : Nat → FieldType := fun k => match k with
  | 0 => .int
  | 1 => .int
  | 2 => .int
  | 3 => .int
  | 4 => .int
  | 5 => .int
  | 6 => .int
  | 7 => .array .int
  | 8 => .array .int
  | 9 => .array .int
  | 10 => .array .int
  | 11 => .array .int
  | 12 => .array .int
  | 13 => .array .int
  | 14 => .int
  | _ => .int
theorem nmX2 : ∀ a, a < 16 → ∀ b, b < 16 → a ≠ b → (TX2 a).2.1 ≠ (TX2 b).2.1 := by decide +kernel
theorem tyX2_ok : ∀ k, k < 16 → parseFieldDescriptor (TX2 k).2.2.1 = some (tyX2 k) := by decide +kernel
def RX3 : String := "TreeStream$Reader"
def TX3 : u_T := fun k => match k with
  | 0 => ("TreeStream$Reader", "cells", "[I", true)
  | 1 => ("TreeStream$Reader", "signs", "[I", true)
  | 2 => ("TreeStream$Reader", "links", "[I", true)
  | 3 => ("TreeStream$Reader", "used", "I", false)
  | 4 => ("TreeStream$Reader", "machine", "LTreeStream$Machine;", false)
  | 5 => ("TreeStream$Reader", "came", "I", false)
  | 6 => ("TreeStream$Reader", "first", "I", false)
  | 7 => ("TreeStream$Reader", "last", "I", false)
  | _ => ("TreeStream$Reader", "size", "I", false)
def tyX3 : Nat → FieldType := fun k => match k with
  | 0 => .array .int
  | 1 => .array .int
  | 2 => .array .int
  | 3 => .int
  | 4 => .object "TreeStream$Machine"
  | 5 => .int
  | 6 => .int
  | 7 => .int
  | _ => .int
theorem nmX3 : ∀ a, a < 9 → ∀ b, b < 9 → a ≠ b → (TX3 a).2.1 ≠ (TX3 b).2.1 := by decide +kernel
theorem tyX3_ok : ∀ k, k < 9 → parseFieldDescriptor (TX3 k).2.2.1 = some (tyX3 k) := by decide +kernel
def RX4 : String := "TreeStream$Safety"
def TX4 : u_T := fun k => match k with
  | 0 => ("TreeStream$Safety", "kinds", "LTreeStream$Kinds;", true)
  | 1 => ("TreeStream$Safety", "known", "[Z", true)
  | 2 => ("TreeStream$Safety", "found", "[I", true)
  | 3 => ("TreeStream$Safety", "many", "I", false)
  | 4 => ("TreeStream$Safety", "latestOfBegin", "[I", true)
  | 5 => ("TreeStream$Safety", "latestOfState", "[I", true)
  | 6 => ("TreeStream$Safety", "aheadByBegin", "[I", true)
  | 7 => ("TreeStream$Safety", "aheadByState", "[I", true)
  | 8 => ("TreeStream$Safety", "stack", "[I", true)
  | 9 => ("TreeStream$Safety", "letters", "[I", true)
  | 10 => ("TreeStream$Safety", "one", "LTreeStream$Machine;", false)
  | _ => ("TreeStream$Safety", "two", "LTreeStream$Machine;", false)
def tyX4 : Nat → FieldType := fun k => match k with
  | 0 => .object "TreeStream$Kinds"
  | 1 => .array .boolean
  | 2 => .array .int
  | 3 => .int
  | 4 => .array .int
  | 5 => .array .int
  | 6 => .array .int
  | 7 => .array .int
  | 8 => .array .int
  | 9 => .array .int
  | 10 => .object "TreeStream$Machine"
  | _ => .object "TreeStream$Machine"
theorem nmX4 : ∀ a, a < 12 → ∀ b, b < 12 → a ≠ b → (TX4 a).2.1 ≠ (TX4 b).2.1 := by decide +kernel
theorem tyX4_ok : ∀ k, k < 12 → parseFieldDescriptor (TX4 k).2.2.1 = some (tyX4 k) := by decide +kernel
def RX5 : String := "TreeStream$Scout"
def TX5 : u_T := fun k => match k with
  | _ => ("TreeStream$Scout", "stack", "[I", true)
def tyX5 : Nat → FieldType := fun k => match k with
  | _ => .array .int
theorem nmX5 : ∀ a, a < 1 → ∀ b, b < 1 → a ≠ b → (TX5 a).2.1 ≠ (TX5 b).2.1 := by decide +kernel
theorem tyX5_ok : ∀ k, k < 1 → parseFieldDescriptor (TX5 k).2.2.1 = some (tyX5 k) := by decide +kernel
def RX6 : String := "TreeStream$Search"
def TX6 : u_T := fun k => match k with
  | 0 => ("TreeStream$Search", "front", "LTreeStream$Reader;", true)
  | 1 => ("TreeStream$Search", "behind", "LTreeStream$Reader;", true)
  | 2 => ("TreeStream$Search", "scout", "LTreeStream$Scout;", true)
  | 3 => ("TreeStream$Search", "path", "LTreeStream$Events;", true)
  | 4 => ("TreeStream$Search", "second", "LTreeStream$Machine;", false)
  | 5 => ("TreeStream$Search", "spoiling", "Z", false)
  | _ => ("TreeStream$Search", "opens", "I", false)
def tyX6 : Nat → FieldType := fun k => match k with
  | 0 => .object "TreeStream$Reader"
  | 1 => .object "TreeStream$Reader"
  | 2 => .object "TreeStream$Scout"
  | 3 => .object "TreeStream$Events"
  | 4 => .object "TreeStream$Machine"
  | 5 => .boolean
  | _ => .int
theorem nmX6 : ∀ a, a < 7 → ∀ b, b < 7 → a ≠ b → (TX6 a).2.1 ≠ (TX6 b).2.1 := by decide +kernel
theorem tyX6_ok : ∀ k, k < 7 → parseFieldDescriptor (TX6 k).2.2.1 = some (tyX6 k) := by decide +kernel
def RX7 : String := "TreeStream$Tape"
def TX7 : u_T := fun k => match k with
  | 0 => ("TreeStream$Tape", "bytes", "[I", true)
  | 1 => ("TreeStream$Tape", "length", "I", false)
  | 2 => ("TreeStream$Tape", "kind", "I", false)
  | 3 => ("TreeStream$Tape", "start", "I", false)
  | 4 => ("TreeStream$Tape", "stop", "I", false)
  | _ => ("TreeStream$Tape", "fault", "I", false)
def tyX7 : Nat → FieldType := fun k => match k with
  | 0 => .array .int
  | 1 => .int
  | 2 => .int
  | 3 => .int
  | 4 => .int
  | _ => .int
theorem nmX7 : ∀ a, a < 6 → ∀ b, b < 6 → a ≠ b → (TX7 a).2.1 ≠ (TX7 b).2.1 := by decide +kernel
theorem tyX7_ok : ∀ k, k < 6 → parseFieldDescriptor (TX7 k).2.2.1 = some (tyX7 k) := by decide +kernel
def RX8 : String := "TreeStream$Texts"
def TX8 : u_T := fun k => match k with
  | 0 => ("TreeStream$Texts", "tape", "LTreeStream$Tape;", true)
  | 1 => ("TreeStream$Texts", "own", "I", false)
  | _ => ("TreeStream$Texts", "seen", "I", false)
def tyX8 : Nat → FieldType := fun k => match k with
  | 0 => .object "TreeStream$Tape"
  | 1 => .int
  | _ => .int
theorem nmX8 : ∀ a, a < 3 → ∀ b, b < 3 → a ≠ b → (TX8 a).2.1 ≠ (TX8 b).2.1 := by decide +kernel
theorem tyX8_ok : ∀ k, k < 3 → parseFieldDescriptor (TX8 k).2.2.1 = some (tyX8 k) := by decide +kernel
def RX9 : String := "TreeStream$Ways"
def TX9 : u_T := fun k => match k with
  | 0 => ("TreeStream$Ways", "fewest", "[J", true)
  | 1 => ("TreeStream$Ways", "single", "[J", true)
  | _ => ("TreeStream$Ways", "rows", "[J", true)
def tyX9 : Nat → FieldType := fun k => match k with
  | 0 => .array .long
  | 1 => .array .long
  | _ => .array .long
theorem nmX9 : ∀ a, a < 3 → ∀ b, b < 3 → a ≠ b → (TX9 a).2.1 ≠ (TX9 b).2.1 := by decide +kernel
theorem tyX9_ok : ∀ k, k < 3 → parseFieldDescriptor (TX9 k).2.2.1 = some (tyX9 k) := by decide +kernel
def RX10 : String := "TreeStream"
def TX10 : u_T := fun k => match k with
  | 0 => ("TreeStream", "tape", "LTreeStream$Tape;", true)
  | 1 => ("TreeStream", "texts", "LTreeStream$Texts;", true)
  | 2 => ("TreeStream", "machines", "[LTreeStream$Machine;", true)
  | 3 => ("TreeStream", "stock", "[LTreeStream$Machine;", true)
  | 4 => ("TreeStream", "given", "LTreeStream$Events;", true)
  | 5 => ("TreeStream", "draft", "LTreeStream$Events;", true)
  | 6 => ("TreeStream", "out", "LTreeStream$Events;", true)
  | 7 => ("TreeStream", "reading", "LTreeStream$Reader;", true)
  | 8 => ("TreeStream", "front", "LTreeStream$Reader;", true)
  | 9 => ("TreeStream", "behind", "LTreeStream$Reader;", true)
  | 10 => ("TreeStream", "ways", "LTreeStream$Ways;", true)
  | 11 => ("TreeStream", "scout", "LTreeStream$Scout;", true)
  | 12 => ("TreeStream", "search", "LTreeStream$Search;", true)
  | _ => ("TreeStream", "safety", "LTreeStream$Safety;", true)
def tyX10 : Nat → FieldType := fun k => match k with
  | 0 => .object "TreeStream$Tape"
  | 1 => .object "TreeStream$Texts"
  | 2 => .array (.object "TreeStream$Machine")
  | 3 => .array (.object "TreeStream$Machine")
  | 4 => .object "TreeStream$Events"
  | 5 => .object "TreeStream$Events"
  | 6 => .object "TreeStream$Events"
  | 7 => .object "TreeStream$Reader"
  | 8 => .object "TreeStream$Reader"
  | 9 => .object "TreeStream$Reader"
  | 10 => .object "TreeStream$Ways"
  | 11 => .object "TreeStream$Scout"
  | 12 => .object "TreeStream$Search"
  | _ => .object "TreeStream$Safety"
theorem nmX10 : ∀ a, a < 14 → ∀ b, b < 14 → a ≠ b → (TX10 a).2.1 ≠ (TX10 b).2.1 := by decide +kernel
theorem tyX10_ok : ∀ k, k < 14 → parseFieldDescriptor (TX10 k).2.2.1 = some (tyX10 k) := by decide +kernel
def RX11 : String := "TreeStreamModel"
def TX11 : u_T := fun k => match k with
  | 0 => ("TreeStreamModel", "tape", "[B", true)
  | 1 => ("TreeStreamModel", "taped", "I", false)
  | 2 => ("TreeStreamModel", "fault", "I", false)
  | 3 => ("TreeStreamModel", "size", "I", false)
  | 4 => ("TreeStreamModel", "to", "I", false)
  | 5 => ("TreeStreamModel", "from", "I", false)
  | 6 => ("TreeStreamModel", "sort", "I", false)
  | 7 => ("TreeStreamModel", "isTold", "[Z", true)
  | 8 => ("TreeStreamModel", "states", "[I", true)
  | 9 => ("TreeStreamModel", "registers", "[I", true)
  | 10 => ("TreeStreamModel", "rules", "[I", true)
  | 11 => ("TreeStreamModel", "codes", "[I", true)
  | 12 => ("TreeStreamModel", "openTo", "[I", true)
  | 13 => ("TreeStreamModel", "openMark", "[I", true)
  | 14 => ("TreeStreamModel", "closeTo", "[I", true)
  | 15 => ("TreeStreamModel", "closeRule", "[I", true)
  | 16 => ("TreeStreamModel", "endRule", "[I", true)
  | 17 => ("TreeStreamModel", "begin", "[I", true)
  | 18 => ("TreeStreamModel", "over", "[I", true)
  | 19 => ("TreeStreamModel", "own", "[I", true)
  | 20 => ("TreeStreamModel", "code", "[I", true)
  | 21 => ("TreeStreamModel", "came", "I", false)
  | 22 => ("TreeStreamModel", "document", "[I", true)
  | 23 => ("TreeStreamModel", "read", "[I", true)
  | 24 => ("TreeStreamModel", "out", "[I", true)
  | 25 => ("TreeStreamModel", "documentMany", "I", false)
  | 26 => ("TreeStreamModel", "readMany", "I", false)
  | 27 => ("TreeStreamModel", "outMany", "I", false)
  | 28 => ("TreeStreamModel", "deepNow", "I", false)
  | 29 => ("TreeStreamModel", "cell", "[I", true)
  | 30 => ("TreeStreamModel", "behind", "[I", true)
  | 31 => ("TreeStreamModel", "used", "[I", true)
  | 32 => ("TreeStreamModel", "state", "[I", true)
  | 33 => ("TreeStreamModel", "deep", "[I", true)
  | 34 => ("TreeStreamModel", "mostHeld", "[I", true)
  | 35 => ("TreeStreamModel", "first", "[I", true)
  | 36 => ("TreeStreamModel", "last", "[I", true)
  | 37 => ("TreeStreamModel", "long1", "[I", true)
  | 38 => ("TreeStreamModel", "mark", "[I", true)
  | 39 => ("TreeStreamModel", "opened", "[I", true)
  | 40 => ("TreeStreamModel", "laidFirst", "[I", true)
  | 41 => ("TreeStreamModel", "laidLast", "[I", true)
  | 42 => ("TreeStreamModel", "laidLong", "[I", true)
  | 43 => ("TreeStreamModel", "madeFirst", "I", false)
  | 44 => ("TreeStreamModel", "madeLast", "I", false)
  | 45 => ("TreeStreamModel", "madeLong", "I", false)
  | 46 => ("TreeStreamModel", "nextFirst", "[I", true)
  | 47 => ("TreeStreamModel", "nextLast", "[I", true)
  | 48 => ("TreeStreamModel", "nextLong", "[I", true)
  | 49 => ("TreeStreamModel", "isReading", "Z", false)
  | 50 => ("TreeStreamModel", "events", "I", false)
  | 51 => ("TreeStreamModel", "openMany", "I", false)
  | 52 => ("TreeStreamModel", "middle", "[I", true)
  | 53 => ("TreeStreamModel", "written", "[I", true)
  | 54 => ("TreeStreamModel", "middleMany", "I", false)
  | 55 => ("TreeStreamModel", "least", "[J", true)
  | 56 => ("TreeStreamModel", "rows", "[J", true)
  | 57 => ("TreeStreamModel", "tried", "[I", true)
  | 58 => ("TreeStreamModel", "comes", "[Z", true)
  | 59 => ("TreeStreamModel", "now", "[I", true)
  | 60 => ("TreeStreamModel", "stacked", "[I", true)
  | 61 => ("TreeStreamModel", "around", "[I", true)
  | _ => ("TreeStreamModel", "aroundLetter", "[I", true)
def tyX11 : Nat → FieldType := fun k => match k with
  | 0 => .array .byte
  | 1 => .int
  | 2 => .int
  | 3 => .int
  | 4 => .int
  | 5 => .int
  | 6 => .int
  | 7 => .array .boolean
  | 8 => .array .int
  | 9 => .array .int
  | 10 => .array .int
  | 11 => .array .int
  | 12 => .array .int
  | 13 => .array .int
  | 14 => .array .int
  | 15 => .array .int
  | 16 => .array .int
  | 17 => .array .int
  | 18 => .array .int
  | 19 => .array .int
  | 20 => .array .int
  | 21 => .int
  | 22 => .array .int
  | 23 => .array .int
  | 24 => .array .int
  | 25 => .int
  | 26 => .int
  | 27 => .int
  | 28 => .int
  | 29 => .array .int
  | 30 => .array .int
  | 31 => .array .int
  | 32 => .array .int
  | 33 => .array .int
  | 34 => .array .int
  | 35 => .array .int
  | 36 => .array .int
  | 37 => .array .int
  | 38 => .array .int
  | 39 => .array .int
  | 40 => .array .int
  | 41 => .array .int
  | 42 => .array .int
  | 43 => .int
  | 44 => .int
  | 45 => .int
  | 46 => .array .int
  | 47 => .array .int
  | 48 => .array .int
  | 49 => .boolean
  | 50 => .int
  | 51 => .int
  | 52 => .array .int
  | 53 => .array .int
  | 54 => .int
  | 55 => .array .long
  | 56 => .array .long
  | 57 => .array .int
  | 58 => .array .boolean
  | 59 => .array .int
  | 60 => .array .int
  | 61 => .array .int
  | _ => .array .int
theorem nmX11 : ∀ a, a < 63 → ∀ b, b < 63 → a ≠ b → (TX11 a).2.1 ≠ (TX11 b).2.1 := by decide +kernel
theorem tyX11_ok : ∀ k, k < 63 → parseFieldDescriptor (TX11 k).2.2.1 = some (tyX11 k) := by decide +kernel
def RJ9 : String := "java/lang/Math"
def RJ0 : String := "java/lang/String"
def RJ1 : String := "java/lang/StringLatin1"
def RJ2 : String := "java/lang/StringUTF16"
def RJ7 : String := "java/util/Arrays"
def RJ3 : String := "jdk/internal/util/Preconditions"
abbrev cX0_init : ByteArray := prog_2_method_1_code
def yX0_init : MethodName := ⟨RX0, "<init>", "(I)V"⟩
abbrev cX0_clear : ByteArray := prog_2_method_2_code
def yX0_clear : MethodName := ⟨RX0, "clear", "()V"⟩
abbrev cX0_add : ByteArray := prog_2_method_3_code
def yX0_add : MethodName := ⟨RX0, "add", "(I)V"⟩
abbrev cX0_drop : ByteArray := prog_2_method_4_code
def yX0_drop : MethodName := ⟨RX0, "drop", "()I"⟩
abbrev cX0_size : ByteArray := prog_2_method_5_code
def yX0_size : MethodName := ⟨RX0, "size", "()I"⟩
abbrev cX0_signAt : ByteArray := prog_2_method_6_code
def yX0_signAt : MethodName := ⟨RX0, "signAt", "(I)I"⟩
abbrev cX0_elements : ByteArray := prog_2_method_7_code
def yX0_elements : MethodName := ⟨RX0, "elements", "()I"⟩
abbrev cX0_depth : ByteArray := prog_2_method_8_code
def yX0_depth : MethodName := ⟨RX0, "depth", "()I"⟩
abbrev cX0_become : ByteArray := prog_2_method_9_code
def yX0_become : MethodName := ⟨RX0, "become", "(LTreeStream$Events;)V"⟩
abbrev cX0_receive : ByteArray := prog_2_method_10_code
def yX0_receive : MethodName := ⟨RX0, "receive", "(LTreeStream$Reader;)V"⟩
abbrev cX1_init : ByteArray := prog_3_method_1_code
def yX1_init : MethodName := ⟨RX1, "<init>", "()V"⟩
abbrev cX1_to : ByteArray := prog_3_method_2_code
def yX1_to : MethodName := ⟨RX1, "to", "(II)I"⟩
abbrev cX1_learn : ByteArray := prog_3_method_3_code
def yX1_learn : MethodName := ⟨RX1, "learn", "(LTreeStream$Machine;)V"⟩
abbrev cX1_passing : ByteArray := prog_3_method_4_code
def yX1_passing : MethodName := ⟨RX1, "passing", "(LTreeStream$Machine;III)I"⟩
abbrev cX1_join : ByteArray := prog_3_method_5_code
def yX1_join : MethodName := ⟨RX1, "join", "(II)I"⟩
abbrev cX1_wrap : ByteArray := prog_3_method_6_code
def yX1_wrap : MethodName := ⟨RX1, "wrap", "(II)I"⟩
abbrev cX2_init : ByteArray := prog_4_method_1_code
def yX2_init : MethodName := ⟨RX2, "<init>", "()V"⟩
abbrev cX2_clear : ByteArray := prog_4_method_2_code
def yX2_clear : MethodName := ⟨RX2, "clear", "()V"⟩
abbrev cX2_rules : ByteArray := prog_4_method_3_code
def yX2_rules : MethodName := ⟨RX2, "rules", "()I"⟩
abbrev cX2_opensTo : ByteArray := prog_4_method_4_code
def yX2_opensTo : MethodName := ⟨RX2, "opensTo", "(II)I"⟩
abbrev cX2_lays : ByteArray := prog_4_method_5_code
def yX2_lays : MethodName := ⟨RX2, "lays", "(II)I"⟩
abbrev cX2_closesTo : ByteArray := prog_4_method_6_code
def yX2_closesTo : MethodName := ⟨RX2, "closesTo", "(II)I"⟩
abbrev cX2_closeTells : ByteArray := prog_4_method_7_code
def yX2_closeTells : MethodName := ⟨RX2, "closeTells", "(II)I"⟩
abbrev cX2_endTells : ByteArray := prog_4_method_8_code
def yX2_endTells : MethodName := ⟨RX2, "endTells", "(I)I"⟩
abbrev cX2_addOpen : ByteArray := prog_4_method_9_code
def yX2_addOpen : MethodName := ⟨RX2, "addOpen", "(IIII)V"⟩
abbrev cX2_addClose : ByteArray := prog_4_method_10_code
def yX2_addClose : MethodName := ⟨RX2, "addClose", "(III)V"⟩
abbrev cX2_addEnd : ByteArray := prog_4_method_11_code
def yX2_addEnd : MethodName := ⟨RX2, "addEnd", "(I)V"⟩
abbrev cX2_startExpression : ByteArray := prog_4_method_12_code
def yX2_startExpression : MethodName := ⟨RX2, "startExpression", "()V"⟩
abbrev cX2_addSign : ByteArray := prog_4_method_13_code
def yX2_addSign : MethodName := ⟨RX2, "addSign", "(I)V"⟩
abbrev cX2_stopExpression : ByteArray := prog_4_method_14_code
def yX2_stopExpression : MethodName := ⟨RX2, "stopExpression", "()V"⟩
abbrev cX3_init : ByteArray := prog_5_method_1_code
def yX3_init : MethodName := ⟨RX3, "<init>", "(I)V"⟩
abbrev cX3_start : ByteArray := prog_5_method_2_code
def yX3_start : MethodName := ⟨RX3, "start", "(LTreeStream$Machine;)V"⟩
abbrev cX3_now : ByteArray := prog_5_method_3_code
def yX3_now : MethodName := ⟨RX3, "now", "(I)I"⟩
abbrev cX3_opens : ByteArray := prog_5_method_4_code
def yX3_opens : MethodName := ⟨RX3, "opens", "()I"⟩
abbrev cX3_step : ByteArray := prog_5_method_5_code
def yX3_step : MethodName := ⟨RX3, "step", "(I)Z"⟩
abbrev cX3_stepIn : ByteArray := prog_5_method_6_code
def yX3_stepIn : MethodName := ⟨RX3, "stepIn", "(I)Z"⟩
abbrev cX3_stepOut : ByteArray := prog_5_method_7_code
def yX3_stepOut : MethodName := ⟨RX3, "stepOut", "()Z"⟩
abbrev cX3_stepBack : ByteArray := prog_5_method_8_code
def yX3_stepBack : MethodName := ⟨RX3, "stepBack", "()V"⟩
abbrev cX3_canEnd : ByteArray := prog_5_method_9_code
def yX3_canEnd : MethodName := ⟨RX3, "canEnd", "()Z"⟩
abbrev cX3_write : ByteArray := prog_5_method_10_code
def yX3_write : MethodName := ⟨RX3, "write", "()V"⟩
abbrev cX3_refusal : ByteArray := prog_5_method_11_code
def yX3_refusal : MethodName := ⟨RX3, "refusal", "(LTreeStream$Machine;LTreeStream$Events;)I"⟩
abbrev cX3_readBehind : ByteArray := prog_5_method_12_code
def yX3_readBehind : MethodName := ⟨RX3, "readBehind", "(LTreeStream$Machine;LTreeStream$Reader;)Z"⟩
abbrev cX3_wroteAlike : ByteArray := prog_5_method_13_code
def yX3_wroteAlike : MethodName := ⟨RX3, "wroteAlike", "(LTreeStream$Reader;)Z"⟩
abbrev cX3_layingWith : ByteArray := prog_5_method_14_code
def yX3_layingWith : MethodName := ⟨RX3, "layingWith", "(I)I"⟩
abbrev cX3_sizeOf : ByteArray := prog_5_method_15_code
def yX3_sizeOf : MethodName := ⟨RX3, "sizeOf", "(II)I"⟩
abbrev cX3_signOf : ByteArray := prog_5_method_16_code
def yX3_signOf : MethodName := ⟨RX3, "signOf", "(III)I"⟩
abbrev cX3_putTogether : ByteArray := prog_5_method_17_code
def yX3_putTogether : MethodName := ⟨RX3, "putTogether", "(III)V"⟩
abbrev cX3_join : ByteArray := prog_5_method_18_code
def yX3_join : MethodName := ⟨RX3, "join", "(III)V"⟩
abbrev cX4_init : ByteArray := prog_6_method_1_code
def yX4_init : MethodName := ⟨RX4, "<init>", "()V"⟩
abbrev cX4_neverSpoils : ByteArray := prog_6_method_2_code
def yX4_neverSpoils : MethodName := ⟨RX4, "neverSpoils", "(LTreeStream$Machine;LTreeStream$Machine;)Z"⟩
abbrev cX4_start : ByteArray := prog_6_method_3_code
def yX4_start : MethodName := ⟨RX4, "start", "(LTreeStream$Machine;LTreeStream$Machine;)V"⟩
abbrev cX4_beginOf : ByteArray := prog_6_method_4_code
def yX4_beginOf : MethodName := ⟨RX4, "beginOf", "(I)I"⟩
abbrev cX4_stateOf : ByteArray := prog_6_method_5_code
def yX4_stateOf : MethodName := ⟨RX4, "stateOf", "(I)I"⟩
abbrev cX4_note : ByteArray := prog_6_method_6_code
def yX4_note : MethodName := ⟨RX4, "note", "(III)V"⟩
abbrev cX4_asOuter : ByteArray := prog_6_method_7_code
def yX4_asOuter : MethodName := ⟨RX4, "asOuter", "(I)V"⟩
abbrev cX4_asInner : ByteArray := prog_6_method_8_code
def yX4_asInner : MethodName := ⟨RX4, "asInner", "(I)V"⟩
abbrev cX4_nest : ByteArray := prog_6_method_9_code
def yX4_nest : MethodName := ⟨RX4, "nest", "(III)V"⟩
abbrev cX4_spoilsAtEnd : ByteArray := prog_6_method_10_code
def yX4_spoilsAtEnd : MethodName := ⟨RX4, "spoilsAtEnd", "(I)Z"⟩
abbrev cX4_kindOf : ByteArray := prog_6_method_11_code
def yX4_kindOf : MethodName := ⟨RX4, "kindOf", "(III)I"⟩
abbrev cX5_init : ByteArray := prog_7_method_1_code
def yX5_init : MethodName := ⟨RX5, "<init>", "()V"⟩
abbrev cX5_canReadBehind : ByteArray := prog_7_method_2_code
def yX5_canReadBehind : MethodName := ⟨RX5, "canReadBehind", "(LTreeStream$Machine;LTreeStream$Reader;)Z"⟩
abbrev cX6_init : ByteArray := prog_8_method_1_code
def yX6_init : MethodName := ⟨RX6, "<init>", "(LTreeStream$Reader;LTreeStream$Reader;LTreeStream$Scout;LTreeStream$Events;)V"⟩
abbrev cX6_fewest : ByteArray := prog_8_method_2_code
def yX6_fewest : MethodName := ⟨RX6, "fewest", "(LTreeStream$Machine;LTreeStream$Machine;IZ)I"⟩
abbrev cX6_prepare : ByteArray := prog_8_method_3_code
def yX6_prepare : MethodName := ⟨RX6, "prepare", "(LTreeStream$Machine;LTreeStream$Machine;Z)V"⟩
abbrev cX6_reads : ByteArray := prog_8_method_4_code
def yX6_reads : MethodName := ⟨RX6, "reads", "(LTreeStream$Reader;)Z"⟩
abbrev cX6_hopeless : ByteArray := prog_8_method_5_code
def yX6_hopeless : MethodName := ⟨RX6, "hopeless", "()Z"⟩
abbrev cX6_go : ByteArray := prog_8_method_6_code
def yX6_go : MethodName := ⟨RX6, "go", "(I)V"⟩
abbrev cX6_goBack : ByteArray := prog_8_method_7_code
def yX6_goBack : MethodName := ⟨RX6, "goBack", "()I"⟩
abbrev cX6_spoilt : ByteArray := prog_8_method_8_code
def yX6_spoilt : MethodName := ⟨RX6, "spoilt", "()Z"⟩
abbrev cX6_different : ByteArray := prog_8_method_9_code
def yX6_different : MethodName := ⟨RX6, "different", "()Z"⟩
abbrev cX7_init : ByteArray := prog_9_method_1_code
def yX7_init : MethodName := ⟨RX7, "<init>", "()V"⟩
abbrev cX7_hasRoom : ByteArray := prog_9_method_2_code
def yX7_hasRoom : MethodName := ⟨RX7, "hasRoom", "()Z"⟩
abbrev cX7_append : ByteArray := prog_9_method_3_code
def yX7_append : MethodName := ⟨RX7, "append", "(I)V"⟩
abbrev cX7_rewind : ByteArray := prog_9_method_4_code
def yX7_rewind : MethodName := ⟨RX7, "rewind", "()V"⟩
abbrev cX7_fail : ByteArray := prog_9_method_5_code
def yX7_fail : MethodName := ⟨RX7, "fail", "(I)V"⟩
abbrev cX7_advance : ByteArray := prog_9_method_6_code
def yX7_advance : MethodName := ⟨RX7, "advance", "()V"⟩
abbrev cX7_kindOf : ByteArray := prog_9_method_7_code
def yX7_kindOf : MethodName := ⟨RX7, "kindOf", "(I)I"⟩
abbrev cX7_isWord : ByteArray := prog_9_method_8_code
def yX7_isWord : MethodName := ⟨RX7, "isWord", "(Ljava/lang/String;)Z"⟩
abbrev cX7_letter : ByteArray := prog_9_method_9_code
def yX7_letter : MethodName := ⟨RX7, "letter", "()I"⟩
abbrev cX7_digit : ByteArray := prog_9_method_10_code
def yX7_digit : MethodName := ⟨RX7, "digit", "(II)I"⟩
abbrev cX7_sign : ByteArray := prog_9_method_11_code
def yX7_sign : MethodName := ⟨RX7, "sign", "(I)V"⟩
abbrev cX8_init : ByteArray := prog_10_method_1_code
def yX8_init : MethodName := ⟨RX8, "<init>", "(LTreeStream$Tape;)V"⟩
abbrev cX8_readDocument : ByteArray := prog_10_method_2_code
def yX8_readDocument : MethodName := ⟨RX8, "readDocument", "(LTreeStream$Events;)V"⟩
abbrev cX8_readMachine : ByteArray := prog_10_method_3_code
def yX8_readMachine : MethodName := ⟨RX8, "readMachine", "(LTreeStream$Machine;)V"⟩
abbrev cX8_startRule : ByteArray := prog_10_method_4_code
def yX8_startRule : MethodName := ⟨RX8, "startRule", "(LTreeStream$Machine;)V"⟩
abbrev cX8_readOpen : ByteArray := prog_10_method_5_code
def yX8_readOpen : MethodName := ⟨RX8, "readOpen", "(LTreeStream$Machine;)V"⟩
abbrev cX8_readClose : ByteArray := prog_10_method_6_code
def yX8_readClose : MethodName := ⟨RX8, "readClose", "(LTreeStream$Machine;)V"⟩
abbrev cX8_readEnd : ByteArray := prog_10_method_7_code
def yX8_readEnd : MethodName := ⟨RX8, "readEnd", "(LTreeStream$Machine;)V"⟩
abbrev cX8_readExpression : ByteArray := prog_10_method_8_code
def yX8_readExpression : MethodName := ⟨RX8, "readExpression", "(LTreeStream$Machine;Z)V"⟩
abbrev cX8_readElement : ByteArray := prog_10_method_9_code
def yX8_readElement : MethodName := ⟨RX8, "readElement", "(LTreeStream$Machine;)V"⟩
abbrev cX8_readRegister : ByteArray := prog_10_method_10_code
def yX8_readRegister : MethodName := ⟨RX8, "readRegister", "(LTreeStream$Machine;I)V"⟩
abbrev cX9_init : ByteArray := prog_11_method_1_code
def yX9_init : MethodName := ⟨RX9, "<init>", "()V"⟩
abbrev cX9_reached : ByteArray := prog_11_method_2_code
def yX9_reached : MethodName := ⟨RX9, "reached", "(LTreeStream$Machine;)I"⟩
abbrev cX9_reachedFrom : ByteArray := prog_11_method_3_code
def yX9_reachedFrom : MethodName := ⟨RX9, "reachedFrom", "(LTreeStream$Machine;I)I"⟩
abbrev cX9_smallest : ByteArray := prog_11_method_4_code
def yX9_smallest : MethodName := ⟨RX9, "smallest", "(LTreeStream$Machine;)I"⟩
abbrev cX9_measure : ByteArray := prog_11_method_5_code
def yX9_measure : MethodName := ⟨RX9, "measure", "(LTreeStream$Machine;)V"⟩
abbrev cX9_shorten : ByteArray := prog_11_method_6_code
def yX9_shorten : MethodName := ⟨RX9, "shorten", "(LTreeStream$Machine;)Z"⟩
abbrev cX9_shortenBy : ByteArray := prog_11_method_7_code
def yX9_shortenBy : MethodName := ⟨RX9, "shortenBy", "(IIJ)Z"⟩
abbrev cX9_readable : ByteArray := prog_11_method_8_code
def yX9_readable : MethodName := ⟨RX9, "readable", "(LTreeStream$Machine;I)J"⟩
abbrev cX9_countSingles : ByteArray := prog_11_method_9_code
def yX9_countSingles : MethodName := ⟨RX9, "countSingles", "(LTreeStream$Machine;I)V"⟩
abbrev cX9_countRows : ByteArray := prog_11_method_10_code
def yX9_countRows : MethodName := ⟨RX9, "countRows", "(LTreeStream$Machine;II)V"⟩
abbrev cX9_pair : ByteArray := prog_11_method_11_code
def yX9_pair : MethodName := ⟨RX9, "pair", "(II)I"⟩
abbrev cX9_at : ByteArray := prog_11_method_12_code
def yX9_at : MethodName := ⟨RX9, "at", "([JI)J"⟩
abbrev cX9_put : ByteArray := prog_11_method_13_code
def yX9_put : MethodName := ⟨RX9, "put", "([JIJ)V"⟩
abbrev cX10_init : ByteArray := prog_1_method_1_code
def yX10_init : MethodName := ⟨RX10, "<init>", "()V"⟩
abbrev cX10_feed : ByteArray := prog_1_method_2_code
def yX10_feed : MethodName := ⟨RX10, "feed", "(IIIII)I"⟩
abbrev cX10_end : ByteArray := prog_1_method_3_code
def yX10_end : MethodName := ⟨RX10, "end", "(I)Z"⟩
abbrev cX10_machine : ByteArray := prog_1_method_4_code
def yX10_machine : MethodName := ⟨RX10, "machine", "(I)I"⟩
abbrev cX10_document : ByteArray := prog_1_method_5_code
def yX10_document : MethodName := ⟨RX10, "document", "()I"⟩
abbrev cX10_fault : ByteArray := prog_1_method_6_code
def yX10_fault : MethodName := ⟨RX10, "fault", "()I"⟩
abbrev cX10_of : ByteArray := prog_1_method_7_code
def yX10_of : MethodName := ⟨RX10, "of", "(II)I"⟩
abbrev cX10_count : ByteArray := prog_1_method_8_code
def yX10_count : MethodName := ⟨RX10, "count", "(I)I"⟩
abbrev cX10_event : ByteArray := prog_1_method_9_code
def yX10_event : MethodName := ⟨RX10, "event", "(IZ)I"⟩
abbrev cX10_take : ByteArray := prog_1_method_10_code
def yX10_take : MethodName := ⟨RX10, "take", "()I"⟩
abbrev cX10_begin : ByteArray := prog_1_method_11_code
def yX10_begin : MethodName := ⟨RX10, "begin", "(I)I"⟩
abbrev cX10_next : ByteArray := prog_1_method_12_code
def yX10_next : MethodName := ⟨RX10, "next", "(I)I"⟩
abbrev cX10_state : ByteArray := prog_1_method_13_code
def yX10_state : MethodName := ⟨RX10, "state", "()I"⟩
abbrev cX10_held : ByteArray := prog_1_method_14_code
def yX10_held : MethodName := ⟨RX10, "held", "(III)I"⟩
abbrev cX10_finish : ByteArray := prog_1_method_15_code
def yX10_finish : MethodName := ⟨RX10, "finish", "()I"⟩
abbrev cX10_run : ByteArray := prog_1_method_16_code
def yX10_run : MethodName := ⟨RX10, "run", "(I)I"⟩
abbrev cX10_through : ByteArray := prog_1_method_17_code
def yX10_through : MethodName := ⟨RX10, "through", "(II)I"⟩
abbrev cX10_refused : ByteArray := prog_1_method_18_code
def yX10_refused : MethodName := ⟨RX10, "refused", "(I)I"⟩
abbrev cX10_ahead : ByteArray := prog_1_method_19_code
def yX10_ahead : MethodName := ⟨RX10, "ahead", "(II)I"⟩
abbrev cX10_peak : ByteArray := prog_1_method_20_code
def yX10_peak : MethodName := ⟨RX10, "peak", "(I)I"⟩
abbrev cX10_bound : ByteArray := prog_1_method_21_code
def yX10_bound : MethodName := ⟨RX10, "bound", "(II)I"⟩
abbrev cX10_states : ByteArray := prog_1_method_22_code
def yX10_states : MethodName := ⟨RX10, "states", "(I)I"⟩
abbrev cX10_many : ByteArray := prog_1_method_23_code
def yX10_many : MethodName := ⟨RX10, "many", "(II)J"⟩
abbrev cX10_least : ByteArray := prog_1_method_24_code
def yX10_least : MethodName := ⟨RX10, "least", "(I)I"⟩
abbrev cX10_differ : ByteArray := prog_1_method_25_code
def yX10_differ : MethodName := ⟨RX10, "differ", "(III)I"⟩
abbrev cX10_spoils : ByteArray := prog_1_method_26_code
def yX10_spoils : MethodName := ⟨RX10, "spoils", "(III)I"⟩
abbrev cX10_safe : ByteArray := prog_1_method_27_code
def yX10_safe : MethodName := ⟨RX10, "safe", "(II)I"⟩
abbrev cX10_found : ByteArray := prog_1_method_28_code
def yX10_found : MethodName := ⟨RX10, "found", "(I)I"⟩
abbrev cX10_told : ByteArray := prog_1_method_29_code
def yX10_told : MethodName := ⟨RX10, "told", "(I)LTreeStream$Machine;"⟩
abbrev cX10_toldMachines : ByteArray := prog_1_method_30_code
def yX10_toldMachines : MethodName := ⟨RX10, "toldMachines", "()I"⟩
abbrev cX10_unused : ByteArray := prog_1_method_31_code
def yX10_unused : MethodName := ⟨RX10, "unused", "()LTreeStream$Machine;"⟩
abbrev cX10_at : ByteArray := prog_1_method_32_code
def yX10_at : MethodName := ⟨RX10, "at", "([II)I"⟩
abbrev cX10_put : ByteArray := prog_1_method_33_code
def yX10_put : MethodName := ⟨RX10, "put", "([III)V"⟩
abbrev cX10_laying : ByteArray := prog_1_method_34_code
def yX10_laying : MethodName := ⟨RX10, "laying", "(II)I"⟩
abbrev cX11_init : ByteArray := prog_13_method_1_code
def yX11_init : MethodName := ⟨RX11, "<init>", "()V"⟩
abbrev cX11_isIn : ByteArray := prog_13_method_2_code
def yX11_isIn : MethodName := ⟨RX11, "isIn", "(III)Z"⟩
abbrev cX11_put : ByteArray := prog_13_method_3_code
def yX11_put : MethodName := ⟨RX11, "put", "(I)V"⟩
abbrev cX11_feed : ByteArray := prog_13_method_4_code
def yX11_feed : MethodName := ⟨RX11, "feed", "(IIIII)I"⟩
abbrev cX11_end : ByteArray := prog_13_method_5_code
def yX11_end : MethodName := ⟨RX11, "end", "(I)Z"⟩
abbrev cX11_isLetter : ByteArray := prog_13_method_6_code
def yX11_isLetter : MethodName := ⟨RX11, "isLetter", "(I)Z"⟩
abbrev cX11_isDigit : ByteArray := prog_13_method_7_code
def yX11_isDigit : MethodName := ⟨RX11, "isDigit", "(I)Z"⟩
abbrev cX11_goes : ByteArray := prog_13_method_8_code
def yX11_goes : MethodName := ⟨RX11, "goes", "()V"⟩
abbrev cX11_begins : ByteArray := prog_13_method_9_code
def yX11_begins : MethodName := ⟨RX11, "begins", "()V"⟩
abbrev cX11_fails : ByteArray := prog_13_method_10_code
def yX11_fails : MethodName := ⟨RX11, "fails", "(I)V"⟩
abbrev cX11_isGood : ByteArray := prog_13_method_11_code
def yX11_isGood : MethodName := ⟨RX11, "isGood", "()Z"⟩
abbrev cX11_isWord : ByteArray := prog_13_method_12_code
def yX11_isWord : MethodName := ⟨RX11, "isWord", "(Ljava/lang/String;)Z"⟩
abbrev cX11_isSign : ByteArray := prog_13_method_13_code
def yX11_isSign : MethodName := ⟨RX11, "isSign", "(I)Z"⟩
abbrev cX11_sign : ByteArray := prog_13_method_14_code
def yX11_sign : MethodName := ⟨RX11, "sign", "(I)V"⟩
abbrev cX11_letter : ByteArray := prog_13_method_15_code
def yX11_letter : MethodName := ⟨RX11, "letter", "()I"⟩
abbrev cX11_digit : ByteArray := prog_13_method_16_code
def yX11_digit : MethodName := ⟨RX11, "digit", "(II)I"⟩
abbrev cX11_number : ByteArray := prog_13_method_17_code
def yX11_number : MethodName := ⟨RX11, "number", "(II)I"⟩
abbrev cX11_openAt : ByteArray := prog_13_method_18_code
def yX11_openAt : MethodName := ⟨RX11, "openAt", "(III)I"⟩
abbrev cX11_closeAt : ByteArray := prog_13_method_19_code
def yX11_closeAt : MethodName := ⟨RX11, "closeAt", "(IIII)I"⟩
abbrev cX11_clears : ByteArray := prog_13_method_20_code
def yX11_clears : MethodName := ⟨RX11, "clears", "(I)V"⟩
abbrev cX11_copies : ByteArray := prog_13_method_21_code
def yX11_copies : MethodName := ⟨RX11, "copies", "(II)V"⟩
abbrev cX11_emits : ByteArray := prog_13_method_22_code
def yX11_emits : MethodName := ⟨RX11, "emits", "(I)V"⟩
abbrev cX11_register : ByteArray := prog_13_method_23_code
def yX11_register : MethodName := ⟨RX11, "register", "(Z)V"⟩
abbrev cX11_parts : ByteArray := prog_13_method_24_code
def yX11_parts : MethodName := ⟨RX11, "parts", "(IZ)V"⟩
abbrev cX11_element : ByteArray := prog_13_method_25_code
def yX11_element : MethodName := ⟨RX11, "element", "(IZ)V"⟩
abbrev cX11_expression : ByteArray := prog_13_method_26_code
def yX11_expression : MethodName := ⟨RX11, "expression", "(IIZ)V"⟩
abbrev cX11_openRule : ByteArray := prog_13_method_27_code
def yX11_openRule : MethodName := ⟨RX11, "openRule", "()V"⟩
abbrev cX11_closeRule : ByteArray := prog_13_method_28_code
def yX11_closeRule : MethodName := ⟨RX11, "closeRule", "(I)V"⟩
abbrev cX11_endsRule : ByteArray := prog_13_method_29_code
def yX11_endsRule : MethodName := ⟨RX11, "endsRule", "(I)V"⟩
abbrev cX11_rule : ByteArray := prog_13_method_30_code
def yX11_rule : MethodName := ⟨RX11, "rule", "()V"⟩
abbrev cX11_machine : ByteArray := prog_13_method_31_code
def yX11_machine : MethodName := ⟨RX11, "machine", "(I)I"⟩
abbrev cX11_readsElement : ByteArray := prog_13_method_32_code
def yX11_readsElement : MethodName := ⟨RX11, "readsElement", "()V"⟩
abbrev cX11_document : ByteArray := prog_13_method_33_code
def yX11_document : MethodName := ⟨RX11, "document", "()I"⟩
abbrev cX11_fault : ByteArray := prog_13_method_34_code
def yX11_fault : MethodName := ⟨RX11, "fault", "()I"⟩
abbrev cX11_isMachine : ByteArray := prog_13_method_35_code
def yX11_isMachine : MethodName := ⟨RX11, "isMachine", "(I)Z"⟩
abbrev cX11_mostOwn : ByteArray := prog_13_method_36_code
def yX11_mostOwn : MethodName := ⟨RX11, "mostOwn", "(IZZ)I"⟩
abbrev cX11_told : ByteArray := prog_13_method_37_code
def yX11_told : MethodName := ⟨RX11, "told", "([III)I"⟩
abbrev cX11_of : ByteArray := prog_13_method_38_code
def yX11_of : MethodName := ⟨RX11, "of", "(II)I"⟩
abbrev cX11_deepOf : ByteArray := prog_13_method_39_code
def yX11_deepOf : MethodName := ⟨RX11, "deepOf", "([II)I"⟩
abbrev cX11_machines : ByteArray := prog_13_method_40_code
def yX11_machines : MethodName := ⟨RX11, "machines", "()I"⟩
abbrev cX11_count : ByteArray := prog_13_method_41_code
def yX11_count : MethodName := ⟨RX11, "count", "(I)I"⟩
abbrev cX11_event : ByteArray := prog_13_method_42_code
def yX11_event : MethodName := ⟨RX11, "event", "(IZ)I"⟩
abbrev cX11_take : ByteArray := prog_13_method_43_code
def yX11_take : MethodName := ⟨RX11, "take", "()I"⟩
abbrev cX11_empties : ByteArray := prog_13_method_44_code
def yX11_empties : MethodName := ⟨RX11, "empties", "(I)V"⟩
abbrev cX11_starts : ByteArray := prog_13_method_45_code
def yX11_starts : MethodName := ⟨RX11, "starts", "(I)V"⟩
abbrev cX11_heldBy : ByteArray := prog_13_method_46_code
def yX11_heldBy : MethodName := ⟨RX11, "heldBy", "(I)I"⟩
abbrev cX11_opens : ByteArray := prog_13_method_47_code
def yX11_opens : MethodName := ⟨RX11, "opens", "(III)Z"⟩
abbrev cX11_adds : ByteArray := prog_13_method_48_code
def yX11_adds : MethodName := ⟨RX11, "adds", "(III)V"⟩
abbrev cX11_makes : ByteArray := prog_13_method_49_code
def yX11_makes : MethodName := ⟨RX11, "makes", "(IIII)V"⟩
abbrev cX11_closes : ByteArray := prog_13_method_50_code
def yX11_closes : MethodName := ⟨RX11, "closes", "(II)Z"⟩
abbrev cX11_reads : ByteArray := prog_13_method_51_code
def yX11_reads : MethodName := ⟨RX11, "reads", "(III)Z"⟩
abbrev cX11_canEnd : ByteArray := prog_13_method_52_code
def yX11_canEnd : MethodName := ⟨RX11, "canEnd", "(II)Z"⟩
abbrev cX11_writes : ByteArray := prog_13_method_53_code
def yX11_writes : MethodName := ⟨RX11, "writes", "(II[I)I"⟩
abbrev cX11_refusedAt : ByteArray := prog_13_method_54_code
def yX11_refusedAt : MethodName := ⟨RX11, "refusedAt", "(II[II)I"⟩
abbrev cX11_begin : ByteArray := prog_13_method_55_code
def yX11_begin : MethodName := ⟨RX11, "begin", "(I)I"⟩
abbrev cX11_next : ByteArray := prog_13_method_56_code
def yX11_next : MethodName := ⟨RX11, "next", "(I)I"⟩
abbrev cX11_state : ByteArray := prog_13_method_57_code
def yX11_state : MethodName := ⟨RX11, "state", "()I"⟩
abbrev cX11_held : ByteArray := prog_13_method_58_code
def yX11_held : MethodName := ⟨RX11, "held", "(III)I"⟩
abbrev cX11_finish : ByteArray := prog_13_method_59_code
def yX11_finish : MethodName := ⟨RX11, "finish", "()I"⟩
abbrev cX11_run : ByteArray := prog_13_method_60_code
def yX11_run : MethodName := ⟨RX11, "run", "(I)I"⟩
abbrev cX11_isReadBy : ByteArray := prog_13_method_61_code
def yX11_isReadBy : MethodName := ⟨RX11, "isReadBy", "(II[II)Z"⟩
abbrev cX11_through : ByteArray := prog_13_method_62_code
def yX11_through : MethodName := ⟨RX11, "through", "(II)I"⟩
abbrev cX11_refused : ByteArray := prog_13_method_63_code
def yX11_refused : MethodName := ⟨RX11, "refused", "(I)I"⟩
abbrev cX11_ahead : ByteArray := prog_13_method_64_code
def yX11_ahead : MethodName := ⟨RX11, "ahead", "(II)I"⟩
abbrev cX11_peak : ByteArray := prog_13_method_65_code
def yX11_peak : MethodName := ⟨RX11, "peak", "(I)I"⟩
abbrev cX11_bound : ByteArray := prog_13_method_66_code
def yX11_bound : MethodName := ⟨RX11, "bound", "(II)I"⟩
abbrev cX11_laysLeast : ByteArray := prog_13_method_67_code
def yX11_laysLeast : MethodName := ⟨RX11, "laysLeast", "(I)V"⟩
abbrev cX11_lets : ByteArray := prog_13_method_68_code
def yX11_lets : MethodName := ⟨RX11, "lets", "(IIII)Z"⟩
abbrev cX11_states : ByteArray := prog_13_method_69_code
def yX11_states : MethodName := ⟨RX11, "states", "(I)I"⟩
abbrev cX11_many : ByteArray := prog_13_method_70_code
def yX11_many : MethodName := ⟨RX11, "many", "(II)J"⟩
abbrev cX11_rowsOf : ByteArray := prog_13_method_71_code
def yX11_rowsOf : MethodName := ⟨RX11, "rowsOf", "(IIII)J"⟩
abbrev cX11_least : ByteArray := prog_13_method_72_code
def yX11_least : MethodName := ⟨RX11, "least", "(I)I"⟩
abbrev cX11_isUnlike : ByteArray := prog_13_method_73_code
def yX11_isUnlike : MethodName := ⟨RX11, "isUnlike", "(III)Z"⟩
abbrev cX11_isSpoilt : ByteArray := prog_13_method_74_code
def yX11_isSpoilt : MethodName := ⟨RX11, "isSpoilt", "(III)Z"⟩
abbrev cX11_finds : ByteArray := prog_13_method_75_code
def yX11_finds : MethodName := ⟨RX11, "finds", "(IIZIII)Z"⟩
abbrev cX11_found : ByteArray := prog_13_method_76_code
def yX11_found : MethodName := ⟨RX11, "found", "(IIIZ)I"⟩
abbrev cX11_differ : ByteArray := prog_13_method_77_code
def yX11_differ : MethodName := ⟨RX11, "differ", "(III)I"⟩
abbrev cX11_spoils : ByteArray := prog_13_method_78_code
def yX11_spoils : MethodName := ⟨RX11, "spoils", "(III)I"⟩
abbrev cX11_by : ByteArray := prog_13_method_79_code
def yX11_by : MethodName := ⟨RX11, "by", "(II)I"⟩
abbrev cX11_then : ByteArray := prog_13_method_80_code
def yX11_then : MethodName := ⟨RX11, "then", "(II)I"⟩
abbrev cX11_within : ByteArray := prog_13_method_81_code
def yX11_within : MethodName := ⟨RX11, "within", "(IIII)I"⟩
abbrev cX11_does : ByteArray := prog_13_method_82_code
def yX11_does : MethodName := ⟨RX11, "does", "(IIII)I"⟩
abbrev cX11_adds_ : ByteArray := prog_13_method_83_code
def yX11_adds_ : MethodName := ⟨RX11, "adds", "(IIIIII)Z"⟩
abbrev cX11_goesOn : ByteArray := prog_13_method_84_code
def yX11_goesOn : MethodName := ⟨RX11, "goesOn", "(IIII)Z"⟩
abbrev cX11_isSpoiltHere : ByteArray := prog_13_method_85_code
def yX11_isSpoiltHere : MethodName := ⟨RX11, "isSpoiltHere", "(III)Z"⟩
abbrev cX11_safe : ByteArray := prog_13_method_86_code
def yX11_safe : MethodName := ⟨RX11, "safe", "(II)I"⟩
abbrev cJ9_max_7cf53 : ByteArray := prog_14_method_65_code
def yJ9_max_7cf53 : MethodName := ⟨RJ9, "max", "(II)I"⟩
abbrev cJ9_min_f86c9 : ByteArray := prog_14_method_70_code
def yJ9_min_f86c9 : MethodName := ⟨RJ9, "min", "(JJ)J"⟩
abbrev cJ0_length_8abf5 : ByteArray := prog_15_method_54_code
def yJ0_length_8abf5 : MethodName := ⟨RJ0, "length", "()I"⟩
abbrev cJ0_charAt_5068e : ByteArray := prog_15_method_56_code
def yJ0_charAt_5068e : MethodName := ⟨RJ0, "charAt", "(I)C"⟩
abbrev cJ0_coder_7d493 : ByteArray := prog_15_method_152_code
def yJ0_coder_7d493 : MethodName := ⟨RJ0, "coder", "()B"⟩
abbrev cJ0_isLatin1_aae02 : ByteArray := prog_15_method_154_code
def yJ0_isLatin1_aae02 : MethodName := ⟨RJ0, "isLatin1", "()Z"⟩
abbrev cJ0_checkIndex_df160 : ByteArray := prog_15_method_155_code
def yJ0_checkIndex_df160 : MethodName := ⟨RJ0, "checkIndex", "(II)V"⟩
abbrev cJ1_charAt_3b067 : ByteArray := prog_16_method_2_code
def yJ1_charAt_3b067 : MethodName := ⟨RJ1, "charAt", "([BI)C"⟩
abbrev cJ2_getChar_3b067 : ByteArray := prog_17_method_5_code
def yJ2_getChar_3b067 : MethodName := ⟨RJ2, "getChar", "([BI)C"⟩
abbrev cJ2_length_9d52b : ByteArray := prog_17_method_6_code
def yJ2_length_9d52b : MethodName := ⟨RJ2, "length", "([B)I"⟩
abbrev cJ2_charAt_3b067 : ByteArray := prog_17_method_83_code
def yJ2_charAt_3b067 : MethodName := ⟨RJ2, "charAt", "([BI)C"⟩
abbrev cJ2_checkIndex_2214a : ByteArray := prog_17_method_91_code
def yJ2_checkIndex_2214a : MethodName := ⟨RJ2, "checkIndex", "(I[B)V"⟩
abbrev cJ7_fill_53178 : ByteArray := prog_18_method_103_code
def yJ7_fill_53178 : MethodName := ⟨RJ7, "fill", "([II)V"⟩
abbrev cJ3_checkIndex_8e157 : ByteArray := prog_19_method_11_code
def yJ3_checkIndex_8e157 : MethodName := ⟨RJ3, "checkIndex", "(IILjava/util/function/BiFunction;)I"⟩
abbrev am_cl : List vw_C := [(RX0, TX0, 2), (RX1, TX1, 2), (RX2, TX2, 16), (RX3, TX3, 9), (RX4, TX4, 12), (RX5, TX5, 1), (RX6, TX6, 7), (RX7, TX7, 6), (RX8, TX8, 3), (RX9, TX9, 3), (RX10, TX10, 14), (RX11, TX11, 63)]
/-- the words that keep, of all tables -/
def am_tb : List Cond := lw_tbl.filter goodWord
theorem am_mt {w : Cond} (i : Nat) (h : tables_1[i]? = some w) (g : goodWord w = true) : w ∈ am_tb :=
  List.mem_filter.mpr ⟨List.mem_append_right _ (List.mem_of_getElem? h), g⟩
theorem am_ms {w : Cond} (i : Nat) (h : (k2_sels lw_privs)[i]? = some w) (g : goodWord w = true) : w ∈ am_tb :=
  List.mem_filter.mpr ⟨List.mem_append_left _ (List.mem_of_getElem? h), g⟩
theorem am_tb_good : ∀ w ∈ am_tb, goodWord w = true := fun _ h => (List.mem_filter.mp h).2
theorem lyX0_0 : u_lay RX0 TX0 0 ∈ am_tb := am_mt 87 (by decide +kernel) (by decide +kernel)
theorem lyX0_1 : u_lay RX0 TX0 1 ∈ am_tb := am_mt 89 (by decide +kernel) (by decide +kernel)
theorem uwX0 : ∀ w ∈ u_ws RX0 TX0 2, w ∈ am_tb := by
  intro w hw
  obtain ⟨j, hj, rfl⟩ := List.mem_map.mp hw
  have hj := List.mem_range.mp hj
  match j, hj with
  | 0, _ => exact lyX0_0
  | 1, _ => exact lyX0_1
  | j + 2, h => exact absurd h (by omega)
theorem lyX1_0 : u_lay RX1 TX1 0 ∈ am_tb := am_mt 210 (by decide +kernel) (by decide +kernel)
theorem lyX1_1 : u_lay RX1 TX1 1 ∈ am_tb := am_mt 212 (by decide +kernel) (by decide +kernel)
theorem uwX1 : ∀ w ∈ u_ws RX1 TX1 2, w ∈ am_tb := by
  intro w hw
  obtain ⟨j, hj, rfl⟩ := List.mem_map.mp hw
  have hj := List.mem_range.mp hj
  match j, hj with
  | 0, _ => exact lyX1_0
  | 1, _ => exact lyX1_1
  | j + 2, h => exact absurd h (by omega)
theorem lyX2_0 : u_lay RX2 TX2 0 ∈ am_tb := am_mt 291 (by decide +kernel) (by decide +kernel)
theorem lyX2_1 : u_lay RX2 TX2 1 ∈ am_tb := am_mt 293 (by decide +kernel) (by decide +kernel)
theorem lyX2_2 : u_lay RX2 TX2 2 ∈ am_tb := am_mt 295 (by decide +kernel) (by decide +kernel)
theorem lyX2_3 : u_lay RX2 TX2 3 ∈ am_tb := am_mt 297 (by decide +kernel) (by decide +kernel)
theorem lyX2_4 : u_lay RX2 TX2 4 ∈ am_tb := am_mt 299 (by decide +kernel) (by decide +kernel)
theorem lyX2_5 : u_lay RX2 TX2 5 ∈ am_tb := am_mt 301 (by decide +kernel) (by decide +kernel)
theorem lyX2_6 : u_lay RX2 TX2 6 ∈ am_tb := am_mt 303 (by decide +kernel) (by decide +kernel)
theorem lyX2_7 : u_lay RX2 TX2 7 ∈ am_tb := am_mt 305 (by decide +kernel) (by decide +kernel)
theorem lyX2_8 : u_lay RX2 TX2 8 ∈ am_tb := am_mt 307 (by decide +kernel) (by decide +kernel)
theorem lyX2_9 : u_lay RX2 TX2 9 ∈ am_tb := am_mt 309 (by decide +kernel) (by decide +kernel)
theorem lyX2_10 : u_lay RX2 TX2 10 ∈ am_tb := am_mt 311 (by decide +kernel) (by decide +kernel)
theorem lyX2_11 : u_lay RX2 TX2 11 ∈ am_tb := am_mt 313 (by decide +kernel) (by decide +kernel)
theorem lyX2_12 : u_lay RX2 TX2 12 ∈ am_tb := am_mt 315 (by decide +kernel) (by decide +kernel)
theorem lyX2_13 : u_lay RX2 TX2 13 ∈ am_tb := am_mt 317 (by decide +kernel) (by decide +kernel)
theorem lyX2_14 : u_lay RX2 TX2 14 ∈ am_tb := am_mt 319 (by decide +kernel) (by decide +kernel)
theorem lyX2_15 : u_lay RX2 TX2 15 ∈ am_tb := am_mt 321 (by decide +kernel) (by decide +kernel)
theorem uwX2 : ∀ w ∈ u_ws RX2 TX2 16, w ∈ am_tb := by
  intro w hw
  obtain ⟨j, hj, rfl⟩ := List.mem_map.mp hw
  have hj := List.mem_range.mp hj
  match j, hj with
  | 0, _ => exact lyX2_0
  | 1, _ => exact lyX2_1
  | 2, _ => exact lyX2_2
  | 3, _ => exact lyX2_3
  | 4, _ => exact lyX2_4
  | 5, _ => exact lyX2_5
  | 6, _ => exact lyX2_6
  | 7, _ => exact lyX2_7
  | 8, _ => exact lyX2_8
  | 9, _ => exact lyX2_9
  | 10, _ => exact lyX2_10
  | 11, _ => exact lyX2_11
  | 12, _ => exact lyX2_12
  | 13, _ => exact lyX2_13
  | 14, _ => exact lyX2_14
  | 15, _ => exact lyX2_15
  | j + 16, h => exact absurd h (by omega)
theorem lyX3_0 : u_lay RX3 TX3 0 ∈ am_tb := am_mt 119 (by decide +kernel) (by decide +kernel)
theorem lyX3_1 : u_lay RX3 TX3 1 ∈ am_tb := am_mt 121 (by decide +kernel) (by decide +kernel)
theorem lyX3_2 : u_lay RX3 TX3 2 ∈ am_tb := am_mt 123 (by decide +kernel) (by decide +kernel)
theorem lyX3_3 : u_lay RX3 TX3 3 ∈ am_tb := am_mt 125 (by decide +kernel) (by decide +kernel)
theorem lyX3_4 : u_lay RX3 TX3 4 ∈ am_tb := am_mt 127 (by decide +kernel) (by decide +kernel)
theorem lyX3_5 : u_lay RX3 TX3 5 ∈ am_tb := am_mt 129 (by decide +kernel) (by decide +kernel)
theorem lyX3_6 : u_lay RX3 TX3 6 ∈ am_tb := am_mt 131 (by decide +kernel) (by decide +kernel)
theorem lyX3_7 : u_lay RX3 TX3 7 ∈ am_tb := am_mt 133 (by decide +kernel) (by decide +kernel)
theorem lyX3_8 : u_lay RX3 TX3 8 ∈ am_tb := am_mt 135 (by decide +kernel) (by decide +kernel)
theorem uwX3 : ∀ w ∈ u_ws RX3 TX3 9, w ∈ am_tb := by
  intro w hw
  obtain ⟨j, hj, rfl⟩ := List.mem_map.mp hw
  have hj := List.mem_range.mp hj
  match j, hj with
  | 0, _ => exact lyX3_0
  | 1, _ => exact lyX3_1
  | 2, _ => exact lyX3_2
  | 3, _ => exact lyX3_3
  | 4, _ => exact lyX3_4
  | 5, _ => exact lyX3_5
  | 6, _ => exact lyX3_6
  | 7, _ => exact lyX3_7
  | 8, _ => exact lyX3_8
  | j + 9, h => exact absurd h (by omega)
theorem lyX4_0 : u_lay RX4 TX4 0 ∈ am_tb := am_mt 227 (by decide +kernel) (by decide +kernel)
theorem lyX4_1 : u_lay RX4 TX4 1 ∈ am_tb := am_mt 229 (by decide +kernel) (by decide +kernel)
theorem lyX4_2 : u_lay RX4 TX4 2 ∈ am_tb := am_mt 231 (by decide +kernel) (by decide +kernel)
theorem lyX4_3 : u_lay RX4 TX4 3 ∈ am_tb := am_mt 233 (by decide +kernel) (by decide +kernel)
theorem lyX4_4 : u_lay RX4 TX4 4 ∈ am_tb := am_mt 235 (by decide +kernel) (by decide +kernel)
theorem lyX4_5 : u_lay RX4 TX4 5 ∈ am_tb := am_mt 237 (by decide +kernel) (by decide +kernel)
theorem lyX4_6 : u_lay RX4 TX4 6 ∈ am_tb := am_mt 239 (by decide +kernel) (by decide +kernel)
theorem lyX4_7 : u_lay RX4 TX4 7 ∈ am_tb := am_mt 241 (by decide +kernel) (by decide +kernel)
theorem lyX4_8 : u_lay RX4 TX4 8 ∈ am_tb := am_mt 243 (by decide +kernel) (by decide +kernel)
theorem lyX4_9 : u_lay RX4 TX4 9 ∈ am_tb := am_mt 245 (by decide +kernel) (by decide +kernel)
theorem lyX4_10 : u_lay RX4 TX4 10 ∈ am_tb := am_mt 247 (by decide +kernel) (by decide +kernel)
theorem lyX4_11 : u_lay RX4 TX4 11 ∈ am_tb := am_mt 249 (by decide +kernel) (by decide +kernel)
theorem uwX4 : ∀ w ∈ u_ws RX4 TX4 12, w ∈ am_tb := by
  intro w hw
  obtain ⟨j, hj, rfl⟩ := List.mem_map.mp hw
  have hj := List.mem_range.mp hj
  match j, hj with
  | 0, _ => exact lyX4_0
  | 1, _ => exact lyX4_1
  | 2, _ => exact lyX4_2
  | 3, _ => exact lyX4_3
  | 4, _ => exact lyX4_4
  | 5, _ => exact lyX4_5
  | 6, _ => exact lyX4_6
  | 7, _ => exact lyX4_7
  | 8, _ => exact lyX4_8
  | 9, _ => exact lyX4_9
  | 10, _ => exact lyX4_10
  | 11, _ => exact lyX4_11
  | j + 12, h => exact absurd h (by omega)
theorem lyX5_0 : u_lay RX5 TX5 0 ∈ am_tb := am_mt 162 (by decide +kernel) (by decide +kernel)
theorem uwX5 : ∀ w ∈ u_ws RX5 TX5 1, w ∈ am_tb := by
  intro w hw
  obtain ⟨j, hj, rfl⟩ := List.mem_map.mp hw
  have hj := List.mem_range.mp hj
  match j, hj with
  | 0, _ => exact lyX5_0
  | j + 1, h => exact absurd h (by omega)
theorem lyX6_0 : u_lay RX6 TX6 0 ∈ am_tb := am_mt 178 (by decide +kernel) (by decide +kernel)
theorem lyX6_1 : u_lay RX6 TX6 1 ∈ am_tb := am_mt 180 (by decide +kernel) (by decide +kernel)
theorem lyX6_2 : u_lay RX6 TX6 2 ∈ am_tb := am_mt 182 (by decide +kernel) (by decide +kernel)
theorem lyX6_3 : u_lay RX6 TX6 3 ∈ am_tb := am_mt 184 (by decide +kernel) (by decide +kernel)
theorem lyX6_4 : u_lay RX6 TX6 4 ∈ am_tb := am_mt 186 (by decide +kernel) (by decide +kernel)
theorem lyX6_5 : u_lay RX6 TX6 5 ∈ am_tb := am_mt 188 (by decide +kernel) (by decide +kernel)
theorem lyX6_6 : u_lay RX6 TX6 6 ∈ am_tb := am_mt 190 (by decide +kernel) (by decide +kernel)
theorem uwX6 : ∀ w ∈ u_ws RX6 TX6 7, w ∈ am_tb := by
  intro w hw
  obtain ⟨j, hj, rfl⟩ := List.mem_map.mp hw
  have hj := List.mem_range.mp hj
  match j, hj with
  | 0, _ => exact lyX6_0
  | 1, _ => exact lyX6_1
  | 2, _ => exact lyX6_2
  | 3, _ => exact lyX6_3
  | 4, _ => exact lyX6_4
  | 5, _ => exact lyX6_5
  | 6, _ => exact lyX6_6
  | j + 7, h => exact absurd h (by omega)
theorem lyX7_0 : u_lay RX7 TX7 0 ∈ am_tb := am_mt 44 (by decide +kernel) (by decide +kernel)
theorem lyX7_1 : u_lay RX7 TX7 1 ∈ am_tb := am_mt 46 (by decide +kernel) (by decide +kernel)
theorem lyX7_2 : u_lay RX7 TX7 2 ∈ am_tb := am_mt 48 (by decide +kernel) (by decide +kernel)
theorem lyX7_3 : u_lay RX7 TX7 3 ∈ am_tb := am_mt 50 (by decide +kernel) (by decide +kernel)
theorem lyX7_4 : u_lay RX7 TX7 4 ∈ am_tb := am_mt 52 (by decide +kernel) (by decide +kernel)
theorem lyX7_5 : u_lay RX7 TX7 5 ∈ am_tb := am_mt 54 (by decide +kernel) (by decide +kernel)
theorem uwX7 : ∀ w ∈ u_ws RX7 TX7 6, w ∈ am_tb := by
  intro w hw
  obtain ⟨j, hj, rfl⟩ := List.mem_map.mp hw
  have hj := List.mem_range.mp hj
  match j, hj with
  | 0, _ => exact lyX7_0
  | 1, _ => exact lyX7_1
  | 2, _ => exact lyX7_2
  | 3, _ => exact lyX7_3
  | 4, _ => exact lyX7_4
  | 5, _ => exact lyX7_5
  | j + 6, h => exact absurd h (by omega)
theorem lyX8_0 : u_lay RX8 TX8 0 ∈ am_tb := am_mt 67 (by decide +kernel) (by decide +kernel)
theorem lyX8_1 : u_lay RX8 TX8 1 ∈ am_tb := am_mt 69 (by decide +kernel) (by decide +kernel)
theorem lyX8_2 : u_lay RX8 TX8 2 ∈ am_tb := am_mt 71 (by decide +kernel) (by decide +kernel)
theorem uwX8 : ∀ w ∈ u_ws RX8 TX8 3, w ∈ am_tb := by
  intro w hw
  obtain ⟨j, hj, rfl⟩ := List.mem_map.mp hw
  have hj := List.mem_range.mp hj
  match j, hj with
  | 0, _ => exact lyX8_0
  | 1, _ => exact lyX8_1
  | 2, _ => exact lyX8_2
  | j + 3, h => exact absurd h (by omega)
theorem lyX9_0 : u_lay RX9 TX9 0 ∈ am_tb := am_mt 147 (by decide +kernel) (by decide +kernel)
theorem lyX9_1 : u_lay RX9 TX9 1 ∈ am_tb := am_mt 149 (by decide +kernel) (by decide +kernel)
theorem lyX9_2 : u_lay RX9 TX9 2 ∈ am_tb := am_mt 151 (by decide +kernel) (by decide +kernel)
theorem uwX9 : ∀ w ∈ u_ws RX9 TX9 3, w ∈ am_tb := by
  intro w hw
  obtain ⟨j, hj, rfl⟩ := List.mem_map.mp hw
  have hj := List.mem_range.mp hj
  match j, hj with
  | 0, _ => exact lyX9_0
  | 1, _ => exact lyX9_1
  | 2, _ => exact lyX9_2
  | j + 3, h => exact absurd h (by omega)
theorem lyX10_0 : u_lay RX10 TX10 0 ∈ am_tb := am_mt 338 (by decide +kernel) (by decide +kernel)
theorem lyX10_1 : u_lay RX10 TX10 1 ∈ am_tb := am_mt 340 (by decide +kernel) (by decide +kernel)
theorem lyX10_2 : u_lay RX10 TX10 2 ∈ am_tb := am_mt 342 (by decide +kernel) (by decide +kernel)
theorem lyX10_3 : u_lay RX10 TX10 3 ∈ am_tb := am_mt 344 (by decide +kernel) (by decide +kernel)
theorem lyX10_4 : u_lay RX10 TX10 4 ∈ am_tb := am_mt 346 (by decide +kernel) (by decide +kernel)
theorem lyX10_5 : u_lay RX10 TX10 5 ∈ am_tb := am_mt 348 (by decide +kernel) (by decide +kernel)
theorem lyX10_6 : u_lay RX10 TX10 6 ∈ am_tb := am_mt 350 (by decide +kernel) (by decide +kernel)
theorem lyX10_7 : u_lay RX10 TX10 7 ∈ am_tb := am_mt 352 (by decide +kernel) (by decide +kernel)
theorem lyX10_8 : u_lay RX10 TX10 8 ∈ am_tb := am_mt 354 (by decide +kernel) (by decide +kernel)
theorem lyX10_9 : u_lay RX10 TX10 9 ∈ am_tb := am_mt 356 (by decide +kernel) (by decide +kernel)
theorem lyX10_10 : u_lay RX10 TX10 10 ∈ am_tb := am_mt 358 (by decide +kernel) (by decide +kernel)
theorem lyX10_11 : u_lay RX10 TX10 11 ∈ am_tb := am_mt 360 (by decide +kernel) (by decide +kernel)
theorem lyX10_12 : u_lay RX10 TX10 12 ∈ am_tb := am_mt 362 (by decide +kernel) (by decide +kernel)
theorem lyX10_13 : u_lay RX10 TX10 13 ∈ am_tb := am_mt 364 (by decide +kernel) (by decide +kernel)
theorem uwX10 : ∀ w ∈ u_ws RX10 TX10 14, w ∈ am_tb := by
  intro w hw
  obtain ⟨j, hj, rfl⟩ := List.mem_map.mp hw
  have hj := List.mem_range.mp hj
  match j, hj with
  | 0, _ => exact lyX10_0
  | 1, _ => exact lyX10_1
  | 2, _ => exact lyX10_2
  | 3, _ => exact lyX10_3
  | 4, _ => exact lyX10_4
  | 5, _ => exact lyX10_5
  | 6, _ => exact lyX10_6
  | 7, _ => exact lyX10_7
  | 8, _ => exact lyX10_8
  | 9, _ => exact lyX10_9
  | 10, _ => exact lyX10_10
  | 11, _ => exact lyX10_11
  | 12, _ => exact lyX10_12
  | 13, _ => exact lyX10_13
  | j + 14, h => exact absurd h (by omega)
theorem lyX11_0 : u_lay RX11 TX11 0 ∈ am_tb := am_mt 1048 (by decide +kernel) (by decide +kernel)
theorem lyX11_1 : u_lay RX11 TX11 1 ∈ am_tb := am_mt 1050 (by decide +kernel) (by decide +kernel)
theorem lyX11_2 : u_lay RX11 TX11 2 ∈ am_tb := am_mt 1052 (by decide +kernel) (by decide +kernel)
theorem lyX11_3 : u_lay RX11 TX11 3 ∈ am_tb := am_mt 1054 (by decide +kernel) (by decide +kernel)
theorem lyX11_4 : u_lay RX11 TX11 4 ∈ am_tb := am_mt 1056 (by decide +kernel) (by decide +kernel)
theorem lyX11_5 : u_lay RX11 TX11 5 ∈ am_tb := am_mt 1058 (by decide +kernel) (by decide +kernel)
theorem lyX11_6 : u_lay RX11 TX11 6 ∈ am_tb := am_mt 1060 (by decide +kernel) (by decide +kernel)
theorem lyX11_7 : u_lay RX11 TX11 7 ∈ am_tb := am_mt 1062 (by decide +kernel) (by decide +kernel)
theorem lyX11_8 : u_lay RX11 TX11 8 ∈ am_tb := am_mt 1064 (by decide +kernel) (by decide +kernel)
theorem lyX11_9 : u_lay RX11 TX11 9 ∈ am_tb := am_mt 1066 (by decide +kernel) (by decide +kernel)
theorem lyX11_10 : u_lay RX11 TX11 10 ∈ am_tb := am_mt 1068 (by decide +kernel) (by decide +kernel)
theorem lyX11_11 : u_lay RX11 TX11 11 ∈ am_tb := am_mt 1070 (by decide +kernel) (by decide +kernel)
theorem lyX11_12 : u_lay RX11 TX11 12 ∈ am_tb := am_mt 1072 (by decide +kernel) (by decide +kernel)
theorem lyX11_13 : u_lay RX11 TX11 13 ∈ am_tb := am_mt 1074 (by decide +kernel) (by decide +kernel)
theorem lyX11_14 : u_lay RX11 TX11 14 ∈ am_tb := am_mt 1076 (by decide +kernel) (by decide +kernel)
theorem lyX11_15 : u_lay RX11 TX11 15 ∈ am_tb := am_mt 1078 (by decide +kernel) (by decide +kernel)
theorem lyX11_16 : u_lay RX11 TX11 16 ∈ am_tb := am_mt 1080 (by decide +kernel) (by decide +kernel)
theorem lyX11_17 : u_lay RX11 TX11 17 ∈ am_tb := am_mt 1082 (by decide +kernel) (by decide +kernel)
theorem lyX11_18 : u_lay RX11 TX11 18 ∈ am_tb := am_mt 1084 (by decide +kernel) (by decide +kernel)
theorem lyX11_19 : u_lay RX11 TX11 19 ∈ am_tb := am_mt 1086 (by decide +kernel) (by decide +kernel)
theorem lyX11_20 : u_lay RX11 TX11 20 ∈ am_tb := am_mt 1088 (by decide +kernel) (by decide +kernel)
theorem lyX11_21 : u_lay RX11 TX11 21 ∈ am_tb := am_mt 1090 (by decide +kernel) (by decide +kernel)
theorem lyX11_22 : u_lay RX11 TX11 22 ∈ am_tb := am_mt 1092 (by decide +kernel) (by decide +kernel)
theorem lyX11_23 : u_lay RX11 TX11 23 ∈ am_tb := am_mt 1094 (by decide +kernel) (by decide +kernel)
theorem lyX11_24 : u_lay RX11 TX11 24 ∈ am_tb := am_mt 1096 (by decide +kernel) (by decide +kernel)
theorem lyX11_25 : u_lay RX11 TX11 25 ∈ am_tb := am_mt 1098 (by decide +kernel) (by decide +kernel)
theorem lyX11_26 : u_lay RX11 TX11 26 ∈ am_tb := am_mt 1100 (by decide +kernel) (by decide +kernel)
theorem lyX11_27 : u_lay RX11 TX11 27 ∈ am_tb := am_mt 1102 (by decide +kernel) (by decide +kernel)
theorem lyX11_28 : u_lay RX11 TX11 28 ∈ am_tb := am_mt 1104 (by decide +kernel) (by decide +kernel)
theorem lyX11_29 : u_lay RX11 TX11 29 ∈ am_tb := am_mt 1106 (by decide +kernel) (by decide +kernel)
theorem lyX11_30 : u_lay RX11 TX11 30 ∈ am_tb := am_mt 1108 (by decide +kernel) (by decide +kernel)
theorem lyX11_31 : u_lay RX11 TX11 31 ∈ am_tb := am_mt 1110 (by decide +kernel) (by decide +kernel)
theorem lyX11_32 : u_lay RX11 TX11 32 ∈ am_tb := am_mt 1112 (by decide +kernel) (by decide +kernel)
theorem lyX11_33 : u_lay RX11 TX11 33 ∈ am_tb := am_mt 1114 (by decide +kernel) (by decide +kernel)
theorem lyX11_34 : u_lay RX11 TX11 34 ∈ am_tb := am_mt 1116 (by decide +kernel) (by decide +kernel)
theorem lyX11_35 : u_lay RX11 TX11 35 ∈ am_tb := am_mt 1118 (by decide +kernel) (by decide +kernel)
theorem lyX11_36 : u_lay RX11 TX11 36 ∈ am_tb := am_mt 1120 (by decide +kernel) (by decide +kernel)
theorem lyX11_37 : u_lay RX11 TX11 37 ∈ am_tb := am_mt 1122 (by decide +kernel) (by decide +kernel)
theorem lyX11_38 : u_lay RX11 TX11 38 ∈ am_tb := am_mt 1124 (by decide +kernel) (by decide +kernel)
theorem lyX11_39 : u_lay RX11 TX11 39 ∈ am_tb := am_mt 1126 (by decide +kernel) (by decide +kernel)
theorem lyX11_40 : u_lay RX11 TX11 40 ∈ am_tb := am_mt 1128 (by decide +kernel) (by decide +kernel)
theorem lyX11_41 : u_lay RX11 TX11 41 ∈ am_tb := am_mt 1130 (by decide +kernel) (by decide +kernel)
theorem lyX11_42 : u_lay RX11 TX11 42 ∈ am_tb := am_mt 1132 (by decide +kernel) (by decide +kernel)
theorem lyX11_43 : u_lay RX11 TX11 43 ∈ am_tb := am_mt 1134 (by decide +kernel) (by decide +kernel)
theorem lyX11_44 : u_lay RX11 TX11 44 ∈ am_tb := am_mt 1136 (by decide +kernel) (by decide +kernel)
theorem lyX11_45 : u_lay RX11 TX11 45 ∈ am_tb := am_mt 1138 (by decide +kernel) (by decide +kernel)
theorem lyX11_46 : u_lay RX11 TX11 46 ∈ am_tb := am_mt 1140 (by decide +kernel) (by decide +kernel)
theorem lyX11_47 : u_lay RX11 TX11 47 ∈ am_tb := am_mt 1142 (by decide +kernel) (by decide +kernel)
theorem lyX11_48 : u_lay RX11 TX11 48 ∈ am_tb := am_mt 1144 (by decide +kernel) (by decide +kernel)
theorem lyX11_49 : u_lay RX11 TX11 49 ∈ am_tb := am_mt 1146 (by decide +kernel) (by decide +kernel)
theorem lyX11_50 : u_lay RX11 TX11 50 ∈ am_tb := am_mt 1148 (by decide +kernel) (by decide +kernel)
theorem lyX11_51 : u_lay RX11 TX11 51 ∈ am_tb := am_mt 1150 (by decide +kernel) (by decide +kernel)
theorem lyX11_52 : u_lay RX11 TX11 52 ∈ am_tb := am_mt 1152 (by decide +kernel) (by decide +kernel)
theorem lyX11_53 : u_lay RX11 TX11 53 ∈ am_tb := am_mt 1154 (by decide +kernel) (by decide +kernel)
theorem lyX11_54 : u_lay RX11 TX11 54 ∈ am_tb := am_mt 1156 (by decide +kernel) (by decide +kernel)
theorem lyX11_55 : u_lay RX11 TX11 55 ∈ am_tb := am_mt 1158 (by decide +kernel) (by decide +kernel)
theorem lyX11_56 : u_lay RX11 TX11 56 ∈ am_tb := am_mt 1160 (by decide +kernel) (by decide +kernel)
theorem lyX11_57 : u_lay RX11 TX11 57 ∈ am_tb := am_mt 1162 (by decide +kernel) (by decide +kernel)
theorem lyX11_58 : u_lay RX11 TX11 58 ∈ am_tb := am_mt 1164 (by decide +kernel) (by decide +kernel)
theorem lyX11_59 : u_lay RX11 TX11 59 ∈ am_tb := am_mt 1166 (by decide +kernel) (by decide +kernel)
theorem lyX11_60 : u_lay RX11 TX11 60 ∈ am_tb := am_mt 1168 (by decide +kernel) (by decide +kernel)
theorem lyX11_61 : u_lay RX11 TX11 61 ∈ am_tb := am_mt 1170 (by decide +kernel) (by decide +kernel)
theorem lyX11_62 : u_lay RX11 TX11 62 ∈ am_tb := am_mt 1172 (by decide +kernel) (by decide +kernel)
theorem uwX11 : ∀ w ∈ u_ws RX11 TX11 63, w ∈ am_tb := by
  intro w hw
  obtain ⟨j, hj, rfl⟩ := List.mem_map.mp hw
  have hj := List.mem_range.mp hj
  match j, hj with
  | 0, _ => exact lyX11_0
  | 1, _ => exact lyX11_1
  | 2, _ => exact lyX11_2
  | 3, _ => exact lyX11_3
  | 4, _ => exact lyX11_4
  | 5, _ => exact lyX11_5
  | 6, _ => exact lyX11_6
  | 7, _ => exact lyX11_7
  | 8, _ => exact lyX11_8
  | 9, _ => exact lyX11_9
  | 10, _ => exact lyX11_10
  | 11, _ => exact lyX11_11
  | 12, _ => exact lyX11_12
  | 13, _ => exact lyX11_13
  | 14, _ => exact lyX11_14
  | 15, _ => exact lyX11_15
  | 16, _ => exact lyX11_16
  | 17, _ => exact lyX11_17
  | 18, _ => exact lyX11_18
  | 19, _ => exact lyX11_19
  | 20, _ => exact lyX11_20
  | 21, _ => exact lyX11_21
  | 22, _ => exact lyX11_22
  | 23, _ => exact lyX11_23
  | 24, _ => exact lyX11_24
  | 25, _ => exact lyX11_25
  | 26, _ => exact lyX11_26
  | 27, _ => exact lyX11_27
  | 28, _ => exact lyX11_28
  | 29, _ => exact lyX11_29
  | 30, _ => exact lyX11_30
  | 31, _ => exact lyX11_31
  | 32, _ => exact lyX11_32
  | 33, _ => exact lyX11_33
  | 34, _ => exact lyX11_34
  | 35, _ => exact lyX11_35
  | 36, _ => exact lyX11_36
  | 37, _ => exact lyX11_37
  | 38, _ => exact lyX11_38
  | 39, _ => exact lyX11_39
  | 40, _ => exact lyX11_40
  | 41, _ => exact lyX11_41
  | 42, _ => exact lyX11_42
  | 43, _ => exact lyX11_43
  | 44, _ => exact lyX11_44
  | 45, _ => exact lyX11_45
  | 46, _ => exact lyX11_46
  | 47, _ => exact lyX11_47
  | 48, _ => exact lyX11_48
  | 49, _ => exact lyX11_49
  | 50, _ => exact lyX11_50
  | 51, _ => exact lyX11_51
  | 52, _ => exact lyX11_52
  | 53, _ => exact lyX11_53
  | 54, _ => exact lyX11_54
  | 55, _ => exact lyX11_55
  | 56, _ => exact lyX11_56
  | 57, _ => exact lyX11_57
  | 58, _ => exact lyX11_58
  | 59, _ => exact lyX11_59
  | 60, _ => exact lyX11_60
  | 61, _ => exact lyX11_61
  | 62, _ => exact lyX11_62
  | j + 63, h => exact absurd h (by omega)
