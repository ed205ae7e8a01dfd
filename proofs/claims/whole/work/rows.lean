section
-- ===== PART A: goes FIRST, ahead of the names: the tables' words, and 'selects' of the private methods out of them =====
/-- a private method of a class that the tables say can be made, by its rows of tables_1 -/
def lw_okq (q : MethodName × Nat) : Prop := (q.1.cls ≠ "java/lang/invoke/MethodHandle" ∧ q.1.cls ≠ "java/lang/invoke/VarHandle") ∧ Cond.instantiable q.1.cls q.2 ∈ tables_1 ∧ Cond.privateMethod q.1 ∈ tables_1 ∧ Cond.instanceMethod q.1 ∈ tables_1
theorem lw_p0 : lw_okq (⟨"NobodyBreathes$Reader", "advance", "()V"⟩, 8) := ⟨⟨by decide +kernel, by decide +kernel⟩, List.mem_of_getElem? (i := 84) (by decide +kernel), List.mem_of_getElem? (i := 258) (by decide +kernel), List.mem_of_getElem? (i := 259) (by decide +kernel)⟩
theorem lw_p1 : lw_okq (⟨"NobodyBreathes$Reader", "readWord", "()V"⟩, 8) := ⟨⟨by decide +kernel, by decide +kernel⟩, List.mem_of_getElem? (i := 84) (by decide +kernel), List.mem_of_getElem? (i := 262) (by decide +kernel), List.mem_of_getElem? (i := 263) (by decide +kernel)⟩
theorem lw_p2 : lw_okq (⟨"NobodyBreathes$Reader", "isWord", "(I)Z"⟩, 8) := ⟨⟨by decide +kernel, by decide +kernel⟩, List.mem_of_getElem? (i := 84) (by decide +kernel), List.mem_of_getElem? (i := 266) (by decide +kernel), List.mem_of_getElem? (i := 267) (by decide +kernel)⟩
theorem lw_p3 : lw_okq (⟨"NobodyBreathes$Reader", "readNumber", "()V"⟩, 8) := ⟨⟨by decide +kernel, by decide +kernel⟩, List.mem_of_getElem? (i := 84) (by decide +kernel), List.mem_of_getElem? (i := 275) (by decide +kernel), List.mem_of_getElem? (i := 276) (by decide +kernel)⟩
theorem lw_p4 : lw_okq (⟨"NobodyBreathes$Reader", "readSign", "()V"⟩, 8) := ⟨⟨by decide +kernel, by decide +kernel⟩, List.mem_of_getElem? (i := 84) (by decide +kernel), List.mem_of_getElem? (i := 279) (by decide +kernel), List.mem_of_getElem? (i := 280) (by decide +kernel)⟩
theorem lw_p5 : lw_okq (⟨"NobodyBreathes$Reader", "pass", "(I)Z"⟩, 8) := ⟨⟨by decide +kernel, by decide +kernel⟩, List.mem_of_getElem? (i := 84) (by decide +kernel), List.mem_of_getElem? (i := 341) (by decide +kernel), List.mem_of_getElem? (i := 342) (by decide +kernel)⟩
theorem lw_p6 : lw_okq (⟨"NobodyBreathes$Reader", "either", "(I)Z"⟩, 8) := ⟨⟨by decide +kernel, by decide +kernel⟩, List.mem_of_getElem? (i := 84) (by decide +kernel), List.mem_of_getElem? (i := 345) (by decide +kernel), List.mem_of_getElem? (i := 346) (by decide +kernel)⟩
theorem lw_p7 : lw_okq (⟨"NobodyBreathes$Reader", "both", "(I)Z"⟩, 8) := ⟨⟨by decide +kernel, by decide +kernel⟩, List.mem_of_getElem? (i := 84) (by decide +kernel), List.mem_of_getElem? (i := 349) (by decide +kernel), List.mem_of_getElem? (i := 350) (by decide +kernel)⟩
theorem lw_p8 : lw_okq (⟨"NobodyBreathes$Reader", "negated", "(I)Z"⟩, 8) := ⟨⟨by decide +kernel, by decide +kernel⟩, List.mem_of_getElem? (i := 84) (by decide +kernel), List.mem_of_getElem? (i := 353) (by decide +kernel), List.mem_of_getElem? (i := 354) (by decide +kernel)⟩
theorem lw_p9 : lw_okq (⟨"NobodyBreathes$Reader", "enter", "(I)Z"⟩, 8) := ⟨⟨by decide +kernel, by decide +kernel⟩, List.mem_of_getElem? (i := 84) (by decide +kernel), List.mem_of_getElem? (i := 357) (by decide +kernel), List.mem_of_getElem? (i := 358) (by decide +kernel)⟩
theorem lw_p10 : lw_okq (⟨"NobodyBreathes$Reader", "emit", "(II)Z"⟩, 8) := ⟨⟨by decide +kernel, by decide +kernel⟩, List.mem_of_getElem? (i := 84) (by decide +kernel), List.mem_of_getElem? (i := 361) (by decide +kernel), List.mem_of_getElem? (i := 362) (by decide +kernel)⟩
theorem lw_p11 : lw_okq (⟨"NobodyBreathes$Reader", "sum", "(I)Z"⟩, 8) := ⟨⟨by decide +kernel, by decide +kernel⟩, List.mem_of_getElem? (i := 84) (by decide +kernel), List.mem_of_getElem? (i := 365) (by decide +kernel), List.mem_of_getElem? (i := 366) (by decide +kernel)⟩
theorem lw_p12 : lw_okq (⟨"NobodyBreathes$Reader", "product", "(I)Z"⟩, 8) := ⟨⟨by decide +kernel, by decide +kernel⟩, List.mem_of_getElem? (i := 84) (by decide +kernel), List.mem_of_getElem? (i := 369) (by decide +kernel), List.mem_of_getElem? (i := 370) (by decide +kernel)⟩
theorem lw_p13 : lw_okq (⟨"NobodyBreathes$Reader", "one", "(I)Z"⟩, 8) := ⟨⟨by decide +kernel, by decide +kernel⟩, List.mem_of_getElem? (i := 84) (by decide +kernel), List.mem_of_getElem? (i := 373) (by decide +kernel), List.mem_of_getElem? (i := 374) (by decide +kernel)⟩
theorem lw_p14 : lw_okq (⟨"NobodyBreathes", "keepText", "(LNobodyBreathes$Text;)V"⟩, 12) := ⟨⟨by decide +kernel, by decide +kernel⟩, List.mem_of_getElem? (i := 24) (by decide +kernel), List.mem_of_getElem? (i := 408) (by decide +kernel), List.mem_of_getElem? (i := 409) (by decide +kernel)⟩
theorem lw_p15 : lw_okq (⟨"NobodyBreathes", "isMissing", "(I)Z"⟩, 12) := ⟨⟨by decide +kernel, by decide +kernel⟩, List.mem_of_getElem? (i := 24) (by decide +kernel), List.mem_of_getElem? (i := 660) (by decide +kernel), List.mem_of_getElem? (i := 661) (by decide +kernel)⟩
def lw_privs_1 : List (MethodName × Nat) := [(⟨"NobodyBreathes$Reader", "advance", "()V"⟩, 8), (⟨"NobodyBreathes$Reader", "readWord", "()V"⟩, 8), (⟨"NobodyBreathes$Reader", "isWord", "(I)Z"⟩, 8), (⟨"NobodyBreathes$Reader", "readNumber", "()V"⟩, 8), (⟨"NobodyBreathes$Reader", "readSign", "()V"⟩, 8), (⟨"NobodyBreathes$Reader", "pass", "(I)Z"⟩, 8), (⟨"NobodyBreathes$Reader", "either", "(I)Z"⟩, 8), (⟨"NobodyBreathes$Reader", "both", "(I)Z"⟩, 8), (⟨"NobodyBreathes$Reader", "negated", "(I)Z"⟩, 8), (⟨"NobodyBreathes$Reader", "enter", "(I)Z"⟩, 8), (⟨"NobodyBreathes$Reader", "emit", "(II)Z"⟩, 8), (⟨"NobodyBreathes$Reader", "sum", "(I)Z"⟩, 8), (⟨"NobodyBreathes$Reader", "product", "(I)Z"⟩, 8), (⟨"NobodyBreathes$Reader", "one", "(I)Z"⟩, 8), (⟨"NobodyBreathes", "keepText", "(LNobodyBreathes$Text;)V"⟩, 12), (⟨"NobodyBreathes", "isMissing", "(I)Z"⟩, 12)]
theorem lw_r1 : ∀ q ∈ lw_privs_1, lw_okq q := List.forall_mem_cons.mpr ⟨lw_p0, List.forall_mem_cons.mpr ⟨lw_p1, List.forall_mem_cons.mpr ⟨lw_p2, List.forall_mem_cons.mpr ⟨lw_p3, List.forall_mem_cons.mpr ⟨lw_p4, List.forall_mem_cons.mpr ⟨lw_p5, List.forall_mem_cons.mpr ⟨lw_p6, List.forall_mem_cons.mpr ⟨lw_p7, List.forall_mem_cons.mpr ⟨lw_p8, List.forall_mem_cons.mpr ⟨lw_p9, List.forall_mem_cons.mpr ⟨lw_p10, List.forall_mem_cons.mpr ⟨lw_p11, List.forall_mem_cons.mpr ⟨lw_p12, List.forall_mem_cons.mpr ⟨lw_p13, List.forall_mem_cons.mpr ⟨lw_p14, List.forall_mem_cons.mpr ⟨lw_p15, fun _ h => absurd h List.not_mem_nil⟩⟩⟩⟩⟩⟩⟩⟩⟩⟩⟩⟩⟩⟩⟩⟩
theorem lw_p16 : lw_okq (⟨"NobodyBreathes", "perform", "(II)V"⟩, 12) := ⟨⟨by decide +kernel, by decide +kernel⟩, List.mem_of_getElem? (i := 24) (by decide +kernel), List.mem_of_getElem? (i := 671) (by decide +kernel), List.mem_of_getElem? (i := 672) (by decide +kernel)⟩
theorem lw_p17 : lw_okq (⟨"NobodyBreathes", "prepare", "(I)V"⟩, 12) := ⟨⟨by decide +kernel, by decide +kernel⟩, List.mem_of_getElem? (i := 24) (by decide +kernel), List.mem_of_getElem? (i := 675) (by decide +kernel), List.mem_of_getElem? (i := 676) (by decide +kernel)⟩
theorem lw_p18 : lw_okq (⟨"NobodyBreathes$Course", "begins", "(III)Z"⟩, 16) := ⟨⟨by decide +kernel, by decide +kernel⟩, List.mem_of_getElem? (i := 122) (by decide +kernel), List.mem_of_getElem? (i := 700) (by decide +kernel), List.mem_of_getElem? (i := 701) (by decide +kernel)⟩
theorem lw_p19 : lw_okq (⟨"NobodyBreathes$Course", "ruleTells", "(III)Z"⟩, 16) := ⟨⟨by decide +kernel, by decide +kernel⟩, List.mem_of_getElem? (i := 122) (by decide +kernel), List.mem_of_getElem? (i := 707) (by decide +kernel), List.mem_of_getElem? (i := 708) (by decide +kernel)⟩
theorem lw_p20 : lw_okq (⟨"NobodyBreathes$Course", "isSilent", "(I)Z"⟩, 16) := ⟨⟨by decide +kernel, by decide +kernel⟩, List.mem_of_getElem? (i := 122) (by decide +kernel), List.mem_of_getElem? (i := 717) (by decide +kernel), List.mem_of_getElem? (i := 718) (by decide +kernel)⟩
theorem lw_p21 : lw_okq (⟨"NobodyBreathes$Course", "listen", "(II)V"⟩, 16) := ⟨⟨by decide +kernel, by decide +kernel⟩, List.mem_of_getElem? (i := 122) (by decide +kernel), List.mem_of_getElem? (i := 722) (by decide +kernel), List.mem_of_getElem? (i := 723) (by decide +kernel)⟩
theorem lw_p22 : lw_okq (⟨"NobodyBreathes$Course", "isHeard", "(I)Z"⟩, 16) := ⟨⟨by decide +kernel, by decide +kernel⟩, List.mem_of_getElem? (i := 122) (by decide +kernel), List.mem_of_getElem? (i := 753) (by decide +kernel), List.mem_of_getElem? (i := 754) (by decide +kernel)⟩
theorem lw_p23 : lw_okq (⟨"NobodyBreathes$Course", "isSaid", "(I)Z"⟩, 16) := ⟨⟨by decide +kernel, by decide +kernel⟩, List.mem_of_getElem? (i := 122) (by decide +kernel), List.mem_of_getElem? (i := 757) (by decide +kernel), List.mem_of_getElem? (i := 758) (by decide +kernel)⟩
theorem lw_p24 : lw_okq (⟨"NobodyBreathes", "earlierLike", "(I)I"⟩, 12) := ⟨⟨by decide +kernel, by decide +kernel⟩, List.mem_of_getElem? (i := 24) (by decide +kernel), List.mem_of_getElem? (i := 802) (by decide +kernel), List.mem_of_getElem? (i := 803) (by decide +kernel)⟩
theorem lw_p25 : lw_okq (⟨"NobodyBreathesModel", "isSinger", "(I)Z"⟩, 58) := ⟨⟨by decide +kernel, by decide +kernel⟩, List.mem_of_getElem? (i := 904) (by decide +kernel), List.mem_of_getElem? (i := 1100) (by decide +kernel), List.mem_of_getElem? (i := 1101) (by decide +kernel)⟩
theorem lw_p26 : lw_okq (⟨"NobodyBreathesModel", "canHold", "(III)I"⟩, 58) := ⟨⟨by decide +kernel, by decide +kernel⟩, List.mem_of_getElem? (i := 904) (by decide +kernel), List.mem_of_getElem? (i := 1108) (by decide +kernel), List.mem_of_getElem? (i := 1109) (by decide +kernel)⟩
theorem lw_p27 : lw_okq (⟨"NobodyBreathesModel", "takes", "(II)I"⟩, 58) := ⟨⟨by decide +kernel, by decide +kernel⟩, List.mem_of_getElem? (i := 904) (by decide +kernel), List.mem_of_getElem? (i := 1112) (by decide +kernel), List.mem_of_getElem? (i := 1113) (by decide +kernel)⟩
theorem lw_p28 : lw_okq (⟨"NobodyBreathesModel", "doesSay", "(II)Z"⟩, 58) := ⟨⟨by decide +kernel, by decide +kernel⟩, List.mem_of_getElem? (i := 904) (by decide +kernel), List.mem_of_getElem? (i := 1116) (by decide +kernel), List.mem_of_getElem? (i := 1117) (by decide +kernel)⟩
theorem lw_p29 : lw_okq (⟨"NobodyBreathesModel", "next", "()V"⟩, 58) := ⟨⟨by decide +kernel, by decide +kernel⟩, List.mem_of_getElem? (i := 904) (by decide +kernel), List.mem_of_getElem? (i := 1128) (by decide +kernel), List.mem_of_getElem? (i := 1129) (by decide +kernel)⟩
theorem lw_p30 : lw_okq (⟨"NobodyBreathesModel", "wordNow", "()I"⟩, 58) := ⟨⟨by decide +kernel, by decide +kernel⟩, List.mem_of_getElem? (i := 904) (by decide +kernel), List.mem_of_getElem? (i := 1135) (by decide +kernel), List.mem_of_getElem? (i := 1136) (by decide +kernel)⟩
theorem lw_p31 : lw_okq (⟨"NobodyBreathesModel", "rule", "(I)V"⟩, 58) := ⟨⟨by decide +kernel, by decide +kernel⟩, List.mem_of_getElem? (i := 904) (by decide +kernel), List.mem_of_getElem? (i := 1142) (by decide +kernel), List.mem_of_getElem? (i := 1143) (by decide +kernel)⟩
def lw_privs_2 : List (MethodName × Nat) := [(⟨"NobodyBreathes", "perform", "(II)V"⟩, 12), (⟨"NobodyBreathes", "prepare", "(I)V"⟩, 12), (⟨"NobodyBreathes$Course", "begins", "(III)Z"⟩, 16), (⟨"NobodyBreathes$Course", "ruleTells", "(III)Z"⟩, 16), (⟨"NobodyBreathes$Course", "isSilent", "(I)Z"⟩, 16), (⟨"NobodyBreathes$Course", "listen", "(II)V"⟩, 16), (⟨"NobodyBreathes$Course", "isHeard", "(I)Z"⟩, 16), (⟨"NobodyBreathes$Course", "isSaid", "(I)Z"⟩, 16), (⟨"NobodyBreathes", "earlierLike", "(I)I"⟩, 12), (⟨"NobodyBreathesModel", "isSinger", "(I)Z"⟩, 58), (⟨"NobodyBreathesModel", "canHold", "(III)I"⟩, 58), (⟨"NobodyBreathesModel", "takes", "(II)I"⟩, 58), (⟨"NobodyBreathesModel", "doesSay", "(II)Z"⟩, 58), (⟨"NobodyBreathesModel", "next", "()V"⟩, 58), (⟨"NobodyBreathesModel", "wordNow", "()I"⟩, 58), (⟨"NobodyBreathesModel", "rule", "(I)V"⟩, 58)]
theorem lw_r2 : ∀ q ∈ lw_privs_2, lw_okq q := List.forall_mem_cons.mpr ⟨lw_p16, List.forall_mem_cons.mpr ⟨lw_p17, List.forall_mem_cons.mpr ⟨lw_p18, List.forall_mem_cons.mpr ⟨lw_p19, List.forall_mem_cons.mpr ⟨lw_p20, List.forall_mem_cons.mpr ⟨lw_p21, List.forall_mem_cons.mpr ⟨lw_p22, List.forall_mem_cons.mpr ⟨lw_p23, List.forall_mem_cons.mpr ⟨lw_p24, List.forall_mem_cons.mpr ⟨lw_p25, List.forall_mem_cons.mpr ⟨lw_p26, List.forall_mem_cons.mpr ⟨lw_p27, List.forall_mem_cons.mpr ⟨lw_p28, List.forall_mem_cons.mpr ⟨lw_p29, List.forall_mem_cons.mpr ⟨lw_p30, List.forall_mem_cons.mpr ⟨lw_p31, fun _ h => absurd h List.not_mem_nil⟩⟩⟩⟩⟩⟩⟩⟩⟩⟩⟩⟩⟩⟩⟩⟩
theorem lw_p32 : lw_okq (⟨"NobodyBreathesModel", "isKey", "(I)Z"⟩, 58) := ⟨⟨by decide +kernel, by decide +kernel⟩, List.mem_of_getElem? (i := 904) (by decide +kernel), List.mem_of_getElem? (i := 1146) (by decide +kernel), List.mem_of_getElem? (i := 1147) (by decide +kernel)⟩
theorem lw_p33 : lw_okq (⟨"NobodyBreathesModel", "faulty", "()V"⟩, 58) := ⟨⟨by decide +kernel, by decide +kernel⟩, List.mem_of_getElem? (i := 904) (by decide +kernel), List.mem_of_getElem? (i := 1150) (by decide +kernel), List.mem_of_getElem? (i := 1151) (by decide +kernel)⟩
theorem lw_p34 : lw_okq (⟨"NobodyBreathesModel", "either", "()V"⟩, 58) := ⟨⟨by decide +kernel, by decide +kernel⟩, List.mem_of_getElem? (i := 904) (by decide +kernel), List.mem_of_getElem? (i := 1154) (by decide +kernel), List.mem_of_getElem? (i := 1155) (by decide +kernel)⟩
theorem lw_p35 : lw_okq (⟨"NobodyBreathesModel", "all", "()V"⟩, 58) := ⟨⟨by decide +kernel, by decide +kernel⟩, List.mem_of_getElem? (i := 904) (by decide +kernel), List.mem_of_getElem? (i := 1158) (by decide +kernel), List.mem_of_getElem? (i := 1159) (by decide +kernel)⟩
theorem lw_p36 : lw_okq (⟨"NobodyBreathesModel", "denied", "()V"⟩, 58) := ⟨⟨by decide +kernel, by decide +kernel⟩, List.mem_of_getElem? (i := 904) (by decide +kernel), List.mem_of_getElem? (i := 1162) (by decide +kernel), List.mem_of_getElem? (i := 1163) (by decide +kernel)⟩
theorem lw_p37 : lw_okq (⟨"NobodyBreathesModel", "opens", "()Z"⟩, 58) := ⟨⟨by decide +kernel, by decide +kernel⟩, List.mem_of_getElem? (i := 904) (by decide +kernel), List.mem_of_getElem? (i := 1166) (by decide +kernel), List.mem_of_getElem? (i := 1167) (by decide +kernel)⟩
theorem lw_p38 : lw_okq (⟨"NobodyBreathesModel", "addStep", "(II)V"⟩, 58) := ⟨⟨by decide +kernel, by decide +kernel⟩, List.mem_of_getElem? (i := 904) (by decide +kernel), List.mem_of_getElem? (i := 1170) (by decide +kernel), List.mem_of_getElem? (i := 1171) (by decide +kernel)⟩
theorem lw_p39 : lw_okq (⟨"NobodyBreathesModel", "sum", "()V"⟩, 58) := ⟨⟨by decide +kernel, by decide +kernel⟩, List.mem_of_getElem? (i := 904) (by decide +kernel), List.mem_of_getElem? (i := 1174) (by decide +kernel), List.mem_of_getElem? (i := 1175) (by decide +kernel)⟩
theorem lw_p40 : lw_okq (⟨"NobodyBreathesModel", "term", "()V"⟩, 58) := ⟨⟨by decide +kernel, by decide +kernel⟩, List.mem_of_getElem? (i := 904) (by decide +kernel), List.mem_of_getElem? (i := 1178) (by decide +kernel), List.mem_of_getElem? (i := 1179) (by decide +kernel)⟩
theorem lw_p41 : lw_okq (⟨"NobodyBreathesModel", "one", "()V"⟩, 58) := ⟨⟨by decide +kernel, by decide +kernel⟩, List.mem_of_getElem? (i := 904) (by decide +kernel), List.mem_of_getElem? (i := 1182) (by decide +kernel), List.mem_of_getElem? (i := 1183) (by decide +kernel)⟩
theorem lw_p42 : lw_okq (⟨"NobodyBreathesModel", "isSign", "(I)Z"⟩, 58) := ⟨⟨by decide +kernel, by decide +kernel⟩, List.mem_of_getElem? (i := 904) (by decide +kernel), List.mem_of_getElem? (i := 1186) (by decide +kernel), List.mem_of_getElem? (i := 1187) (by decide +kernel)⟩
theorem lw_p43 : lw_okq (⟨"NobodyBreathesModel", "isWay", "(I)Z"⟩, 58) := ⟨⟨by decide +kernel, by decide +kernel⟩, List.mem_of_getElem? (i := 904) (by decide +kernel), List.mem_of_getElem? (i := 1198) (by decide +kernel), List.mem_of_getElem? (i := 1199) (by decide +kernel)⟩
theorem lw_p44 : lw_okq (⟨"NobodyBreathesModel", "isStep", "(I)Z"⟩, 58) := ⟨⟨by decide +kernel, by decide +kernel⟩, List.mem_of_getElem? (i := 904) (by decide +kernel), List.mem_of_getElem? (i := 1202) (by decide +kernel), List.mem_of_getElem? (i := 1203) (by decide +kernel)⟩
theorem lw_p45 : lw_okq (⟨"NobodyBreathesModel", "isMissing", "(I)Z"⟩, 58) := ⟨⟨by decide +kernel, by decide +kernel⟩, List.mem_of_getElem? (i := 904) (by decide +kernel), List.mem_of_getElem? (i := 1206) (by decide +kernel), List.mem_of_getElem? (i := 1207) (by decide +kernel)⟩
theorem lw_p46 : lw_okq (⟨"NobodyBreathesModel", "begin", "()V"⟩, 58) := ⟨⟨by decide +kernel, by decide +kernel⟩, List.mem_of_getElem? (i := 904) (by decide +kernel), List.mem_of_getElem? (i := 1210) (by decide +kernel), List.mem_of_getElem? (i := 1211) (by decide +kernel)⟩
theorem lw_p47 : lw_okq (⟨"NobodyBreathesModel", "go", "(II)V"⟩, 58) := ⟨⟨by decide +kernel, by decide +kernel⟩, List.mem_of_getElem? (i := 904) (by decide +kernel), List.mem_of_getElem? (i := 1214) (by decide +kernel), List.mem_of_getElem? (i := 1215) (by decide +kernel)⟩
def lw_privs_3 : List (MethodName × Nat) := [(⟨"NobodyBreathesModel", "isKey", "(I)Z"⟩, 58), (⟨"NobodyBreathesModel", "faulty", "()V"⟩, 58), (⟨"NobodyBreathesModel", "either", "()V"⟩, 58), (⟨"NobodyBreathesModel", "all", "()V"⟩, 58), (⟨"NobodyBreathesModel", "denied", "()V"⟩, 58), (⟨"NobodyBreathesModel", "opens", "()Z"⟩, 58), (⟨"NobodyBreathesModel", "addStep", "(II)V"⟩, 58), (⟨"NobodyBreathesModel", "sum", "()V"⟩, 58), (⟨"NobodyBreathesModel", "term", "()V"⟩, 58), (⟨"NobodyBreathesModel", "one", "()V"⟩, 58), (⟨"NobodyBreathesModel", "isSign", "(I)Z"⟩, 58), (⟨"NobodyBreathesModel", "isWay", "(I)Z"⟩, 58), (⟨"NobodyBreathesModel", "isStep", "(I)Z"⟩, 58), (⟨"NobodyBreathesModel", "isMissing", "(I)Z"⟩, 58), (⟨"NobodyBreathesModel", "begin", "()V"⟩, 58), (⟨"NobodyBreathesModel", "go", "(II)V"⟩, 58)]
theorem lw_r3 : ∀ q ∈ lw_privs_3, lw_okq q := List.forall_mem_cons.mpr ⟨lw_p32, List.forall_mem_cons.mpr ⟨lw_p33, List.forall_mem_cons.mpr ⟨lw_p34, List.forall_mem_cons.mpr ⟨lw_p35, List.forall_mem_cons.mpr ⟨lw_p36, List.forall_mem_cons.mpr ⟨lw_p37, List.forall_mem_cons.mpr ⟨lw_p38, List.forall_mem_cons.mpr ⟨lw_p39, List.forall_mem_cons.mpr ⟨lw_p40, List.forall_mem_cons.mpr ⟨lw_p41, List.forall_mem_cons.mpr ⟨lw_p42, List.forall_mem_cons.mpr ⟨lw_p43, List.forall_mem_cons.mpr ⟨lw_p44, List.forall_mem_cons.mpr ⟨lw_p45, List.forall_mem_cons.mpr ⟨lw_p46, List.forall_mem_cons.mpr ⟨lw_p47, fun _ h => absurd h List.not_mem_nil⟩⟩⟩⟩⟩⟩⟩⟩⟩⟩⟩⟩⟩⟩⟩⟩
theorem lw_p48 : lw_okq (⟨"NobodyBreathesModel", "breathes", "(III)Z"⟩, 58) := ⟨⟨by decide +kernel, by decide +kernel⟩, List.mem_of_getElem? (i := 904) (by decide +kernel), List.mem_of_getElem? (i := 1218) (by decide +kernel), List.mem_of_getElem? (i := 1219) (by decide +kernel)⟩
theorem lw_p49 : lw_okq (⟨"NobodyBreathesModel", "isPlanned", "(III)Z"⟩, 58) := ⟨⟨by decide +kernel, by decide +kernel⟩, List.mem_of_getElem? (i := 904) (by decide +kernel), List.mem_of_getElem? (i := 1222) (by decide +kernel), List.mem_of_getElem? (i := 1223) (by decide +kernel)⟩
theorem lw_p50 : lw_okq (⟨"NobodyBreathesModel", "loudAt", "(I)I"⟩, 58) := ⟨⟨by decide +kernel, by decide +kernel⟩, List.mem_of_getElem? (i := 904) (by decide +kernel), List.mem_of_getElem? (i := 1226) (by decide +kernel), List.mem_of_getElem? (i := 1227) (by decide +kernel)⟩
theorem lw_p51 : lw_okq (⟨"NobodyBreathesModel", "findFacts", "(II)V"⟩, 58) := ⟨⟨by decide +kernel, by decide +kernel⟩, List.mem_of_getElem? (i := 904) (by decide +kernel), List.mem_of_getElem? (i := 1230) (by decide +kernel), List.mem_of_getElem? (i := 1231) (by decide +kernel)⟩
theorem lw_p52 : lw_okq (⟨"NobodyBreathesModel", "gives", "(I)I"⟩, 58) := ⟨⟨by decide +kernel, by decide +kernel⟩, List.mem_of_getElem? (i := 904) (by decide +kernel), List.mem_of_getElem? (i := 1234) (by decide +kernel), List.mem_of_getElem? (i := 1235) (by decide +kernel)⟩
theorem lw_p53 : lw_okq (⟨"NobodyBreathesModel", "ofVoice", "(I)I"⟩, 58) := ⟨⟨by decide +kernel, by decide +kernel⟩, List.mem_of_getElem? (i := 904) (by decide +kernel), List.mem_of_getElem? (i := 1245) (by decide +kernel), List.mem_of_getElem? (i := 1246) (by decide +kernel)⟩
theorem lw_p54 : lw_okq (⟨"NobodyBreathesModel", "beginThin", "()V"⟩, 58) := ⟨⟨by decide +kernel, by decide +kernel⟩, List.mem_of_getElem? (i := 904) (by decide +kernel), List.mem_of_getElem? (i := 1253) (by decide +kernel), List.mem_of_getElem? (i := 1254) (by decide +kernel)⟩
theorem lw_p55 : lw_okq (⟨"NobodyBreathesModel", "lookThin", "()V"⟩, 58) := ⟨⟨by decide +kernel, by decide +kernel⟩, List.mem_of_getElem? (i := 904) (by decide +kernel), List.mem_of_getElem? (i := 1257) (by decide +kernel), List.mem_of_getElem? (i := 1258) (by decide +kernel)⟩
theorem lw_p56 : lw_okq (⟨"NobodyBreathesModel", "wrongIn", "(I)I"⟩, 58) := ⟨⟨by decide +kernel, by decide +kernel⟩, List.mem_of_getElem? (i := 904) (by decide +kernel), List.mem_of_getElem? (i := 1261) (by decide +kernel), List.mem_of_getElem? (i := 1262) (by decide +kernel)⟩
theorem lw_p57 : lw_okq (⟨"NobodyBreathesModel", "isHeard", "(I)Z"⟩, 58) := ⟨⟨by decide +kernel, by decide +kernel⟩, List.mem_of_getElem? (i := 904) (by decide +kernel), List.mem_of_getElem? (i := 1265) (by decide +kernel), List.mem_of_getElem? (i := 1266) (by decide +kernel)⟩
theorem lw_p58 : lw_okq (⟨"NobodyBreathesModel", "badOf", "(I)J"⟩, 58) := ⟨⟨by decide +kernel, by decide +kernel⟩, List.mem_of_getElem? (i := 904) (by decide +kernel), List.mem_of_getElem? (i := 1274) (by decide +kernel), List.mem_of_getElem? (i := 1275) (by decide +kernel)⟩
theorem lw_p59 : lw_okq (⟨"NobodyBreathesModel", "isLike", "(II)Z"⟩, 58) := ⟨⟨by decide +kernel, by decide +kernel⟩, List.mem_of_getElem? (i := 904) (by decide +kernel), List.mem_of_getElem? (i := 1293) (by decide +kernel), List.mem_of_getElem? (i := 1294) (by decide +kernel)⟩
def lw_privs_4 : List (MethodName × Nat) := [(⟨"NobodyBreathesModel", "breathes", "(III)Z"⟩, 58), (⟨"NobodyBreathesModel", "isPlanned", "(III)Z"⟩, 58), (⟨"NobodyBreathesModel", "loudAt", "(I)I"⟩, 58), (⟨"NobodyBreathesModel", "findFacts", "(II)V"⟩, 58), (⟨"NobodyBreathesModel", "gives", "(I)I"⟩, 58), (⟨"NobodyBreathesModel", "ofVoice", "(I)I"⟩, 58), (⟨"NobodyBreathesModel", "beginThin", "()V"⟩, 58), (⟨"NobodyBreathesModel", "lookThin", "()V"⟩, 58), (⟨"NobodyBreathesModel", "wrongIn", "(I)I"⟩, 58), (⟨"NobodyBreathesModel", "isHeard", "(I)Z"⟩, 58), (⟨"NobodyBreathesModel", "badOf", "(I)J"⟩, 58), (⟨"NobodyBreathesModel", "isLike", "(II)Z"⟩, 58)]
theorem lw_r4 : ∀ q ∈ lw_privs_4, lw_okq q := List.forall_mem_cons.mpr ⟨lw_p48, List.forall_mem_cons.mpr ⟨lw_p49, List.forall_mem_cons.mpr ⟨lw_p50, List.forall_mem_cons.mpr ⟨lw_p51, List.forall_mem_cons.mpr ⟨lw_p52, List.forall_mem_cons.mpr ⟨lw_p53, List.forall_mem_cons.mpr ⟨lw_p54, List.forall_mem_cons.mpr ⟨lw_p55, List.forall_mem_cons.mpr ⟨lw_p56, List.forall_mem_cons.mpr ⟨lw_p57, List.forall_mem_cons.mpr ⟨lw_p58, List.forall_mem_cons.mpr ⟨lw_p59, fun _ h => absurd h List.not_mem_nil⟩⟩⟩⟩⟩⟩⟩⟩⟩⟩⟩⟩
def lw_privs : List (MethodName × Nat) := lw_privs_1 ++ (lw_privs_2 ++ (lw_privs_3 ++ (lw_privs_4)))
def lw_tbl : List Cond := k2_sels lw_privs ++ tables_1
theorem lw_privs_ok : ∀ q ∈ lw_privs, lw_okq q := by
  show ∀ q ∈ lw_privs_1 ++ (lw_privs_2 ++ (lw_privs_3 ++ (lw_privs_4))), lw_okq q
  exact List.forall_mem_append.mpr ⟨lw_r1, List.forall_mem_append.mpr ⟨lw_r2, List.forall_mem_append.mpr ⟨lw_r3, lw_r4⟩⟩⟩
def RX0 : String := "NobodyBreathes$Cold"
def TX0 : u_T := fun k => match k with
  | 0 => ("NobodyBreathes$Singer", "hold", "I", true)
  | 1 => ("NobodyBreathes$Singer", "takes", "I", true)
  | _ => ("NobodyBreathes$Singer", "number", "I", true)
def tyX0 : Nat → FieldType := fun k => match k with
  | 0 => .int
  | 1 => .int
  | _ => .int
theorem nmX0 : ∀ a, a < 3 → ∀ b, b < 3 → a ≠ b → (TX0 a).2.1 ≠ (TX0 b).2.1 := by decide +kernel
theorem tyX0_ok : ∀ k, k < 3 → parseFieldDescriptor (TX0 k).2.2.1 = some (tyX0 k) := by decide +kernel
abbrev cX0_init : ByteArray := prog_2_method_1_code
def yX0_init : MethodName := ⟨RX0, "<init>", "(III)V"⟩
abbrev cX0_kind : ByteArray := prog_2_method_2_code
def yX0_kind : MethodName := ⟨RX0, "kind", "()I"⟩
abbrev cX0_isUnder : ByteArray := prog_2_method_3_code
def yX0_isUnder : MethodName := ⟨RX0, "isUnder", "(I)Z"⟩
abbrev cX0_reach : ByteArray := prog_2_method_4_code
def yX0_reach : MethodName := ⟨RX0, "reach", "(II)I"⟩
abbrev cX0_silentSteps : ByteArray := prog_2_method_5_code
def yX0_silentSteps : MethodName := ⟨RX0, "silentSteps", "(I)I"⟩
abbrev cX0_says : ByteArray := prog_2_method_6_code
def yX0_says : MethodName := ⟨RX0, "says", "(I)Z"⟩
def RX1 : String := "NobodyBreathes$Course"
def TX1 : u_T := fun k => match k with
  | 0 => ("NobodyBreathes$Course", "piece", "LNobodyBreathes$Piece;", true)
  | 1 => ("NobodyBreathes$Course", "choir", "[LNobodyBreathes$Singer;", true)
  | 2 => ("NobodyBreathes$Course", "heard", "[I", true)
  | 3 => ("NobodyBreathes$Course", "held", "[I", true)
  | 4 => ("NobodyBreathes$Course", "silent", "[I", true)
  | 5 => ("NobodyBreathes$Course", "often", "[I", true)
  | 6 => ("NobodyBreathes$Course", "plan", "[J", true)
  | 7 => ("NobodyBreathes$Course", "members", "[I", true)
  | 8 => ("NobodyBreathes$Course", "thinFor", "[I", true)
  | 9 => ("NobodyBreathes$Course", "worth", "[I", true)
  | 10 => ("NobodyBreathes$Course", "way", "I", false)
  | 11 => ("NobodyBreathes$Course", "size", "I", false)
  | 12 => ("NobodyBreathes$Course", "rule", "LNobodyBreathes$Text;", false)
  | 13 => ("NobodyBreathes$Course", "now", "I", false)
  | 14 => ("NobodyBreathes$Course", "gone", "I", false)
  | _ => ("NobodyBreathes$Course", "goneFrom", "I", false)
def tyX1 : Nat → FieldType := fun k => match k with
  | 0 => .object "NobodyBreathes$Piece"
  | 1 => .array (.object "NobodyBreathes$Singer")
  | 2 => .array .int
  | 3 => .array .int
  | 4 => .array .int
  | 5 => .array .int
  | 6 => .array .long
  | 7 => .array .int
  | 8 => .array .int
  | 9 => .array .int
  | 10 => .int
  | 11 => .int
  | 12 => .object "NobodyBreathes$Text"
  | 13 => .int
  | 14 => .int
  | _ => .int
theorem nmX1 : ∀ a, a < 16 → ∀ b, b < 16 → a ≠ b → (TX1 a).2.1 ≠ (TX1 b).2.1 := by decide +kernel
theorem tyX1_ok : ∀ k, k < 16 → parseFieldDescriptor (TX1 k).2.2.1 = some (tyX1 k) := by decide +kernel
abbrev cX1_init : ByteArray := prog_3_method_1_code
def yX1_init : MethodName := ⟨RX1, "<init>", "(LNobodyBreathes$Piece;[LNobodyBreathes$Singer;)V"⟩
abbrev cX1_choose : ByteArray := prog_3_method_2_code
def yX1_choose : MethodName := ⟨RX1, "choose", "(IILNobodyBreathes$Text;)V"⟩
abbrev cX1_lose : ByteArray := prog_3_method_3_code
def yX1_lose : MethodName := ⟨RX1, "lose", "(II)V"⟩
abbrev cX1_readPlan : ByteArray := prog_3_method_4_code
def yX1_readPlan : MethodName := ⟨RX1, "readPlan", "(LNobodyBreathes$Sheet;)V"⟩
abbrev cX1_start : ByteArray := prog_3_method_5_code
def yX1_start : MethodName := ⟨RX1, "start", "()V"⟩
abbrev cX1_advance : ByteArray := prog_3_method_6_code
def yX1_advance : MethodName := ⟨RX1, "advance", "(II)V"⟩
abbrev cX1_begins : ByteArray := prog_3_method_7_code
def yX1_begins : MethodName := ⟨RX1, "begins", "(III)Z"⟩
abbrev cX1_ruleTells : ByteArray := prog_3_method_8_code
def yX1_ruleTells : MethodName := ⟨RX1, "ruleTells", "(III)Z"⟩
abbrev cX1_isSilent : ByteArray := prog_3_method_9_code
def yX1_isSilent : MethodName := ⟨RX1, "isSilent", "(I)Z"⟩
abbrev cX1_listen : ByteArray := prog_3_method_10_code
def yX1_listen : MethodName := ⟨RX1, "listen", "(II)V"⟩
abbrev cX1_howMany : ByteArray := prog_3_method_11_code
def yX1_howMany : MethodName := ⟨RX1, "howMany", "(I)I"⟩
abbrev cX1_isHeard : ByteArray := prog_3_method_12_code
def yX1_isHeard : MethodName := ⟨RX1, "isHeard", "(I)Z"⟩
abbrev cX1_allBreaths : ByteArray := prog_3_method_13_code
def yX1_allBreaths : MethodName := ⟨RX1, "allBreaths", "()I"⟩
abbrev cX1_stateOf : ByteArray := prog_3_method_14_code
def yX1_stateOf : MethodName := ⟨RX1, "stateOf", "(II)J"⟩
abbrev cX1_wrongHere : ByteArray := prog_3_method_15_code
def yX1_wrongHere : MethodName := ⟨RX1, "wrongHere", "(I)I"⟩
abbrev cX1_isSaid : ByteArray := prog_3_method_16_code
def yX1_isSaid : MethodName := ⟨RX1, "isSaid", "(I)Z"⟩
abbrev cX1_weigh : ByteArray := prog_3_method_17_code
def yX1_weigh : MethodName := ⟨RX1, "weigh", "()V"⟩
abbrev cX1_badOfAll : ByteArray := prog_3_method_18_code
def yX1_badOfAll : MethodName := ⟨RX1, "badOfAll", "()J"⟩
abbrev cX1_breathesBehind : ByteArray := prog_3_method_19_code
def yX1_breathesBehind : MethodName := ⟨RX1, "breathesBehind", "(II)Z"⟩
def RX2 : String := "NobodyBreathes$Low"
def TX2 : u_T := fun k => match k with
  | 0 => ("NobodyBreathes$Singer", "hold", "I", true)
  | 1 => ("NobodyBreathes$Singer", "takes", "I", true)
  | _ => ("NobodyBreathes$Singer", "number", "I", true)
def tyX2 : Nat → FieldType := fun k => match k with
  | 0 => .int
  | 1 => .int
  | _ => .int
theorem nmX2 : ∀ a, a < 3 → ∀ b, b < 3 → a ≠ b → (TX2 a).2.1 ≠ (TX2 b).2.1 := by decide +kernel
theorem tyX2_ok : ∀ k, k < 3 → parseFieldDescriptor (TX2 k).2.2.1 = some (tyX2 k) := by decide +kernel
abbrev cX2_init : ByteArray := prog_4_method_1_code
def yX2_init : MethodName := ⟨RX2, "<init>", "(III)V"⟩
abbrev cX2_kind : ByteArray := prog_4_method_2_code
def yX2_kind : MethodName := ⟨RX2, "kind", "()I"⟩
abbrev cX2_isUnder : ByteArray := prog_4_method_3_code
def yX2_isUnder : MethodName := ⟨RX2, "isUnder", "(I)Z"⟩
abbrev cX2_reach : ByteArray := prog_4_method_4_code
def yX2_reach : MethodName := ⟨RX2, "reach", "(II)I"⟩
def RX3 : String := "NobodyBreathes$Old"
def TX3 : u_T := fun k => match k with
  | 0 => ("NobodyBreathes$Singer", "hold", "I", true)
  | 1 => ("NobodyBreathes$Singer", "takes", "I", true)
  | _ => ("NobodyBreathes$Singer", "number", "I", true)
def tyX3 : Nat → FieldType := fun k => match k with
  | 0 => .int
  | 1 => .int
  | _ => .int
theorem nmX3 : ∀ a, a < 3 → ∀ b, b < 3 → a ≠ b → (TX3 a).2.1 ≠ (TX3 b).2.1 := by decide +kernel
theorem tyX3_ok : ∀ k, k < 3 → parseFieldDescriptor (TX3 k).2.2.1 = some (tyX3 k) := by decide +kernel
abbrev cX3_init : ByteArray := prog_5_method_1_code
def yX3_init : MethodName := ⟨RX3, "<init>", "(III)V"⟩
abbrev cX3_kind : ByteArray := prog_5_method_2_code
def yX3_kind : MethodName := ⟨RX3, "kind", "()I"⟩
abbrev cX3_isUnder : ByteArray := prog_5_method_3_code
def yX3_isUnder : MethodName := ⟨RX3, "isUnder", "(I)Z"⟩
abbrev cX3_reach : ByteArray := prog_5_method_4_code
def yX3_reach : MethodName := ⟨RX3, "reach", "(II)I"⟩
abbrev cX3_says : ByteArray := prog_5_method_5_code
def yX3_says : MethodName := ⟨RX3, "says", "(I)Z"⟩
def RX4 : String := "NobodyBreathes$Piece"
def TX4 : u_T := fun k => match k with
  | 0 => ("NobodyBreathes$Piece", "loud", "[I", true)
  | 1 => ("NobodyBreathes$Piece", "bar", "[I", true)
  | 2 => ("NobodyBreathes$Piece", "hiss", "[I", true)
  | 3 => ("NobodyBreathes$Piece", "least", "[I", true)
  | 4 => ("NobodyBreathes$Piece", "voiceOf", "[I", true)
  | 5 => ("NobodyBreathes$Piece", "last", "I", false)
  | 6 => ("NobodyBreathes$Piece", "echo", "I", false)
  | _ => ("NobodyBreathes$Piece", "rule", "I", false)
def tyX4 : Nat → FieldType := fun k => match k with
  | 0 => .array .int
  | 1 => .array .int
  | 2 => .array .int
  | 3 => .array .int
  | 4 => .array .int
  | 5 => .int
  | 6 => .int
  | _ => .int
theorem nmX4 : ∀ a, a < 8 → ∀ b, b < 8 → a ≠ b → (TX4 a).2.1 ≠ (TX4 b).2.1 := by decide +kernel
theorem tyX4_ok : ∀ k, k < 8 → parseFieldDescriptor (TX4 k).2.2.1 = some (tyX4 k) := by decide +kernel
abbrev cX4_init : ByteArray := prog_6_method_1_code
def yX4_init : MethodName := ⟨RX4, "<init>", "()V"⟩
abbrev cX4_takeFrom : ByteArray := prog_6_method_2_code
def yX4_takeFrom : MethodName := ⟨RX4, "takeFrom", "(LNobodyBreathes$Piece;I)V"⟩
def RX5 : String := "NobodyBreathes$Reader"
def TX5 : u_T := fun k => match k with
  | 0 => ("NobodyBreathes$Reader", "tape", "[C", true)
  | 1 => ("NobodyBreathes$Reader", "code", "[I", true)
  | 2 => ("NobodyBreathes$Reader", "size", "I", false)
  | 3 => ("NobodyBreathes$Reader", "next", "I", false)
  | 4 => ("NobodyBreathes$Reader", "place", "I", false)
  | 5 => ("NobodyBreathes$Reader", "token", "I", false)
  | 6 => ("NobodyBreathes$Reader", "value", "I", false)
  | _ => ("NobodyBreathes$Reader", "length", "I", false)
def tyX5 : Nat → FieldType := fun k => match k with
  | 0 => .array .char
  | 1 => .array .int
  | 2 => .int
  | 3 => .int
  | 4 => .int
  | 5 => .int
  | 6 => .int
  | _ => .int
theorem nmX5 : ∀ a, a < 8 → ∀ b, b < 8 → a ≠ b → (TX5 a).2.1 ≠ (TX5 b).2.1 := by decide +kernel
theorem tyX5_ok : ∀ k, k < 8 → parseFieldDescriptor (TX5 k).2.2.1 = some (tyX5 k) := by decide +kernel
abbrev cX5_init : ByteArray := prog_7_method_1_code
def yX5_init : MethodName := ⟨RX5, "<init>", "()V"⟩
abbrev cX5_put : ByteArray := prog_7_method_2_code
def yX5_put : MethodName := ⟨RX5, "put", "(I)V"⟩
abbrev cX5_clear : ByteArray := prog_7_method_3_code
def yX5_clear : MethodName := ⟨RX5, "clear", "()V"⟩
abbrev cX5_compiled : ByteArray := prog_7_method_4_code
def yX5_compiled : MethodName := ⟨RX5, "compiled", "()LNobodyBreathes$Text;"⟩
abbrev cX5_either : ByteArray := prog_7_method_5_code
def yX5_either : MethodName := ⟨RX5, "either", "(I)Z"⟩
abbrev cX5_both : ByteArray := prog_7_method_6_code
def yX5_both : MethodName := ⟨RX5, "both", "(I)Z"⟩
abbrev cX5_negated : ByteArray := prog_7_method_7_code
def yX5_negated : MethodName := ⟨RX5, "negated", "(I)Z"⟩
abbrev cX5_sum : ByteArray := prog_7_method_8_code
def yX5_sum : MethodName := ⟨RX5, "sum", "(I)Z"⟩
abbrev cX5_product : ByteArray := prog_7_method_9_code
def yX5_product : MethodName := ⟨RX5, "product", "(I)Z"⟩
abbrev cX5_one : ByteArray := prog_7_method_10_code
def yX5_one : MethodName := ⟨RX5, "one", "(I)Z"⟩
abbrev cX5_enter : ByteArray := prog_7_method_11_code
def yX5_enter : MethodName := ⟨RX5, "enter", "(I)Z"⟩
abbrev cX5_pass : ByteArray := prog_7_method_12_code
def yX5_pass : MethodName := ⟨RX5, "pass", "(I)Z"⟩
abbrev cX5_emit : ByteArray := prog_7_method_13_code
def yX5_emit : MethodName := ⟨RX5, "emit", "(II)Z"⟩
abbrev cX5_advance : ByteArray := prog_7_method_14_code
def yX5_advance : MethodName := ⟨RX5, "advance", "()V"⟩
abbrev cX5_readWord : ByteArray := prog_7_method_15_code
def yX5_readWord : MethodName := ⟨RX5, "readWord", "()V"⟩
abbrev cX5_isWord : ByteArray := prog_7_method_16_code
def yX5_isWord : MethodName := ⟨RX5, "isWord", "(I)Z"⟩
abbrev cX5_readNumber : ByteArray := prog_7_method_17_code
def yX5_readNumber : MethodName := ⟨RX5, "readNumber", "()V"⟩
abbrev cX5_readSign : ByteArray := prog_7_method_18_code
def yX5_readSign : MethodName := ⟨RX5, "readSign", "()V"⟩
def RX6 : String := "NobodyBreathes$Sheet"
def TX6 : u_T := fun k => match k with
  | 0 => ("NobodyBreathes$Sheet", "items", "[I", true)
  | 1 => ("NobodyBreathes$Sheet", "sort", "I", false)
  | _ => ("NobodyBreathes$Sheet", "length", "I", false)
def tyX6 : Nat → FieldType := fun k => match k with
  | 0 => .array .int
  | 1 => .int
  | _ => .int
theorem nmX6 : ∀ a, a < 3 → ∀ b, b < 3 → a ≠ b → (TX6 a).2.1 ≠ (TX6 b).2.1 := by decide +kernel
theorem tyX6_ok : ∀ k, k < 3 → parseFieldDescriptor (TX6 k).2.2.1 = some (tyX6 k) := by decide +kernel
abbrev cX6_init : ByteArray := prog_8_method_1_code
def yX6_init : MethodName := ⟨RX6, "<init>", "()V"⟩
abbrev cX6_isMissing : ByteArray := prog_8_method_2_code
def yX6_isMissing : MethodName := ⟨RX6, "isMissing", "()Z"⟩
abbrev cX6_become : ByteArray := prog_8_method_3_code
def yX6_become : MethodName := ⟨RX6, "become", "(II)V"⟩
abbrev cX6_put : ByteArray := prog_8_method_4_code
def yX6_put : MethodName := ⟨RX6, "put", "(II)V"⟩
abbrev cX6_hasRoom : ByteArray := prog_8_method_5_code
def yX6_hasRoom : MethodName := ⟨RX6, "hasRoom", "(II)Z"⟩
def RX7 : String := "NobodyBreathes$Singer"
def TX7 : u_T := fun k => match k with
  | 0 => ("NobodyBreathes$Singer", "hold", "I", true)
  | 1 => ("NobodyBreathes$Singer", "takes", "I", true)
  | _ => ("NobodyBreathes$Singer", "number", "I", true)
def tyX7 : Nat → FieldType := fun k => match k with
  | 0 => .int
  | 1 => .int
  | _ => .int
theorem nmX7 : ∀ a, a < 3 → ∀ b, b < 3 → a ≠ b → (TX7 a).2.1 ≠ (TX7 b).2.1 := by decide +kernel
theorem tyX7_ok : ∀ k, k < 3 → parseFieldDescriptor (TX7 k).2.2.1 = some (tyX7 k) := by decide +kernel
abbrev cX7_init : ByteArray := prog_9_method_1_code
def yX7_init : MethodName := ⟨RX7, "<init>", "(III)V"⟩
abbrev cX7_kind : ByteArray := prog_9_method_2_code
def yX7_kind : MethodName := ⟨RX7, "kind", "()I"⟩
abbrev cX7_isUnder : ByteArray := prog_9_method_3_code
def yX7_isUnder : MethodName := ⟨RX7, "isUnder", "(I)Z"⟩
abbrev cX7_canHold : ByteArray := prog_9_method_4_code
def yX7_canHold : MethodName := ⟨RX7, "canHold", "(II)I"⟩
abbrev cX7_reach : ByteArray := prog_9_method_5_code
def yX7_reach : MethodName := ⟨RX7, "reach", "(II)I"⟩
abbrev cX7_silentSteps : ByteArray := prog_9_method_6_code
def yX7_silentSteps : MethodName := ⟨RX7, "silentSteps", "(I)I"⟩
abbrev cX7_says : ByteArray := prog_9_method_7_code
def yX7_says : MethodName := ⟨RX7, "says", "(I)Z"⟩
def RX8 : String := "NobodyBreathes$Soft"
def TX8 : u_T := fun k => match k with
  | 0 => ("NobodyBreathes$Singer", "hold", "I", true)
  | 1 => ("NobodyBreathes$Singer", "takes", "I", true)
  | _ => ("NobodyBreathes$Singer", "number", "I", true)
def tyX8 : Nat → FieldType := fun k => match k with
  | 0 => .int
  | 1 => .int
  | _ => .int
theorem nmX8 : ∀ a, a < 3 → ∀ b, b < 3 → a ≠ b → (TX8 a).2.1 ≠ (TX8 b).2.1 := by decide +kernel
theorem tyX8_ok : ∀ k, k < 3 → parseFieldDescriptor (TX8 k).2.2.1 = some (tyX8 k) := by decide +kernel
abbrev cX8_init : ByteArray := prog_10_method_1_code
def yX8_init : MethodName := ⟨RX8, "<init>", "(III)V"⟩
abbrev cX8_kind : ByteArray := prog_10_method_2_code
def yX8_kind : MethodName := ⟨RX8, "kind", "()I"⟩
abbrev cX8_isUnder : ByteArray := prog_10_method_3_code
def yX8_isUnder : MethodName := ⟨RX8, "isUnder", "(I)Z"⟩
abbrev cX8_reach : ByteArray := prog_10_method_4_code
def yX8_reach : MethodName := ⟨RX8, "reach", "(II)I"⟩
abbrev cX8_says : ByteArray := prog_10_method_5_code
def yX8_says : MethodName := ⟨RX8, "says", "(I)Z"⟩
def RX9 : String := "NobodyBreathes$Text"
def TX9 : u_T := fun k => match k with
  | 0 => ("NobodyBreathes$Text", "code", "[I", true)
  | 1 => ("NobodyBreathes$Text", "ends", "[I", true)
  | _ => ("NobodyBreathes$Text", "stack", "[I", true)
def tyX9 : Nat → FieldType := fun k => match k with
  | 0 => .array .int
  | 1 => .array .int
  | _ => .array .int
theorem nmX9 : ∀ a, a < 3 → ∀ b, b < 3 → a ≠ b → (TX9 a).2.1 ≠ (TX9 b).2.1 := by decide +kernel
theorem tyX9_ok : ∀ k, k < 3 → parseFieldDescriptor (TX9 k).2.2.1 = some (tyX9 k) := by decide +kernel
abbrev cX9_init : ByteArray := prog_11_method_1_code
def yX9_init : MethodName := ⟨RX9, "<init>", "([I[I)V"⟩
abbrev cX9_valueOf : ByteArray := prog_11_method_2_code
def yX9_valueOf : MethodName := ⟨RX9, "valueOf", "(I[I)I"⟩
abbrev cX9_joined : ByteArray := prog_11_method_3_code
def yX9_joined : MethodName := ⟨RX9, "joined", "(III)I"⟩
def RX10 : String := "NobodyBreathes$Tired"
def TX10 : u_T := fun k => match k with
  | 0 => ("NobodyBreathes$Singer", "hold", "I", true)
  | 1 => ("NobodyBreathes$Singer", "takes", "I", true)
  | _ => ("NobodyBreathes$Singer", "number", "I", true)
def tyX10 : Nat → FieldType := fun k => match k with
  | 0 => .int
  | 1 => .int
  | _ => .int
theorem nmX10 : ∀ a, a < 3 → ∀ b, b < 3 → a ≠ b → (TX10 a).2.1 ≠ (TX10 b).2.1 := by decide +kernel
theorem tyX10_ok : ∀ k, k < 3 → parseFieldDescriptor (TX10 k).2.2.1 = some (tyX10 k) := by decide +kernel
abbrev cX10_init : ByteArray := prog_12_method_1_code
def yX10_init : MethodName := ⟨RX10, "<init>", "(III)V"⟩
abbrev cX10_kind : ByteArray := prog_12_method_2_code
def yX10_kind : MethodName := ⟨RX10, "kind", "()I"⟩
abbrev cX10_isUnder : ByteArray := prog_12_method_3_code
def yX10_isUnder : MethodName := ⟨RX10, "isUnder", "(I)Z"⟩
abbrev cX10_reach : ByteArray := prog_12_method_4_code
def yX10_reach : MethodName := ⟨RX10, "reach", "(II)I"⟩
abbrev cX10_silentSteps : ByteArray := prog_12_method_5_code
def yX10_silentSteps : MethodName := ⟨RX10, "silentSteps", "(I)I"⟩
def RX11 : String := "NobodyBreathes"
def TX11 : u_T := fun k => match k with
  | 0 => ("NobodyBreathes", "piece", "LNobodyBreathes$Piece;", true)
  | 1 => ("NobodyBreathes", "kept", "LNobodyBreathes$Piece;", true)
  | 2 => ("NobodyBreathes", "keptSize", "I", false)
  | 3 => ("NobodyBreathes", "choir", "[LNobodyBreathes$Singer;", true)
  | 4 => ("NobodyBreathes", "size", "I", false)
  | 5 => ("NobodyBreathes", "reader", "LNobodyBreathes$Reader;", true)
  | 6 => ("NobodyBreathes", "written", "[LNobodyBreathes$Text;", true)
  | 7 => ("NobodyBreathes", "texts", "I", false)
  | 8 => ("NobodyBreathes", "rows", "[LNobodyBreathes$Sheet;", true)
  | 9 => ("NobodyBreathes", "course", "LNobodyBreathes$Course;", true)
  | 10 => ("NobodyBreathes", "pastLow", "[J", true)
  | _ => ("NobodyBreathes", "pastHigh", "[J", true)
def tyX11 : Nat → FieldType := fun k => match k with
  | 0 => .object "NobodyBreathes$Piece"
  | 1 => .object "NobodyBreathes$Piece"
  | 2 => .int
  | 3 => .array (.object "NobodyBreathes$Singer")
  | 4 => .int
  | 5 => .object "NobodyBreathes$Reader"
  | 6 => .array (.object "NobodyBreathes$Text")
  | 7 => .int
  | 8 => .array (.object "NobodyBreathes$Sheet")
  | 9 => .object "NobodyBreathes$Course"
  | 10 => .array .long
  | _ => .array .long
theorem nmX11 : ∀ a, a < 12 → ∀ b, b < 12 → a ≠ b → (TX11 a).2.1 ≠ (TX11 b).2.1 := by decide +kernel
theorem tyX11_ok : ∀ k, k < 12 → parseFieldDescriptor (TX11 k).2.2.1 = some (tyX11 k) := by decide +kernel
abbrev cX11_init : ByteArray := prog_1_method_1_code
def yX11_init : MethodName := ⟨RX11, "<init>", "()V"⟩
abbrev cX11_set : ByteArray := prog_1_method_2_code
def yX11_set : MethodName := ⟨RX11, "set", "(III)I"⟩
abbrev cX11_singer : ByteArray := prog_1_method_3_code
def yX11_singer : MethodName := ⟨RX11, "singer", "(III)I"⟩
abbrev cX11_voice : ByteArray := prog_1_method_4_code
def yX11_voice : MethodName := ⟨RX11, "voice", "(II)I"⟩
abbrev cX11_told : ByteArray := prog_1_method_5_code
def yX11_told : MethodName := ⟨RX11, "told", "(IIII)I"⟩
abbrev cX11_feed : ByteArray := prog_1_method_6_code
def yX11_feed : MethodName := ⟨RX11, "feed", "(IJ)I"⟩
abbrev cX11_text : ByteArray := prog_1_method_7_code
def yX11_text : MethodName := ⟨RX11, "text", "()I"⟩
abbrev cX11_force : ByteArray := prog_1_method_8_code
def yX11_force : MethodName := ⟨RX11, "force", "(I)I"⟩
abbrev cX11_sing : ByteArray := prog_1_method_9_code
def yX11_sing : MethodName := ⟨RX11, "sing", "(II)I"⟩
abbrev cX11_of : ByteArray := prog_1_method_10_code
def yX11_of : MethodName := ⟨RX11, "of", "(III)I"⟩
abbrev cX11_wrong : ByteArray := prog_1_method_11_code
def yX11_wrong : MethodName := ⟨RX11, "wrong", "(I)I"⟩
abbrev cX11_bad : ByteArray := prog_1_method_12_code
def yX11_bad : MethodName := ⟨RX11, "bad", "(I)J"⟩
abbrev cX11_breaths : ByteArray := prog_1_method_13_code
def yX11_breaths : MethodName := ⟨RX11, "breaths", "(II)I"⟩
abbrev cX11_fewest : ByteArray := prog_1_method_14_code
def yX11_fewest : MethodName := ⟨RX11, "fewest", "(III)I"⟩
abbrev cX11_round : ByteArray := prog_1_method_15_code
def yX11_round : MethodName := ⟨RX11, "round", "(III)I"⟩
abbrev cX11_lent : ByteArray := prog_1_method_16_code
def yX11_lent : MethodName := ⟨RX11, "lent", "(III)J"⟩
abbrev cX11_lost : ByteArray := prog_1_method_17_code
def yX11_lost : MethodName := ⟨RX11, "lost", "(III)J"⟩
abbrev cX11_who : ByteArray := prog_1_method_18_code
def yX11_who : MethodName := ⟨RX11, "who", "(I)I"⟩
abbrev cX11_image : ByteArray := prog_1_method_19_code
def yX11_image : MethodName := ⟨RX11, "image", "()I"⟩
abbrev cX11_back : ByteArray := prog_1_method_20_code
def yX11_back : MethodName := ⟨RX11, "back", "()I"⟩
abbrev cX11_count : ByteArray := prog_1_method_21_code
def yX11_count : MethodName := ⟨RX11, "count", "(I)I"⟩
abbrev cX11_sheet : ByteArray := prog_1_method_22_code
def yX11_sheet : MethodName := ⟨RX11, "sheet", "(III)I"⟩
abbrev cX11_cell : ByteArray := prog_1_method_23_code
def yX11_cell : MethodName := ⟨RX11, "cell", "(III)I"⟩
abbrev cX11_copy : ByteArray := prog_1_method_24_code
def yX11_copy : MethodName := ⟨RX11, "copy", "(IIIII)I"⟩
abbrev cX11_singers : ByteArray := prog_1_method_25_code
def yX11_singers : MethodName := ⟨RX11, "singers", "(IIII)I"⟩
abbrev cX11_taken : ByteArray := prog_1_method_26_code
def yX11_taken : MethodName := ⟨RX11, "taken", "(II)I"⟩
abbrev cX11_outside : ByteArray := prog_1_method_27_code
def yX11_outside : MethodName := ⟨RX11, "outside", "(II)Z"⟩
abbrev cX11_truth : ByteArray := prog_1_method_28_code
def yX11_truth : MethodName := ⟨RX11, "truth", "(Z)I"⟩
abbrev cX11_change : ByteArray := prog_1_method_29_code
def yX11_change : MethodName := ⟨RX11, "change", "([IIII)I"⟩
abbrev cX11_sumOf : ByteArray := prog_1_method_30_code
def yX11_sumOf : MethodName := ⟨RX11, "sumOf", "([II)I"⟩
abbrev cX11_newSinger : ByteArray := prog_1_method_31_code
def yX11_newSinger : MethodName := ⟨RX11, "newSinger", "(IIII)LNobodyBreathes$Singer;"⟩
abbrev cX11_keepText : ByteArray := prog_1_method_32_code
def yX11_keepText : MethodName := ⟨RX11, "keepText", "(LNobodyBreathes$Text;)V"⟩
abbrev cX11_isPlan : ByteArray := prog_1_method_33_code
def yX11_isPlan : MethodName := ⟨RX11, "isPlan", "(I)Z"⟩
abbrev cX11_isMissing : ByteArray := prog_1_method_34_code
def yX11_isMissing : MethodName := ⟨RX11, "isMissing", "(I)Z"⟩
abbrev cX11_prepare : ByteArray := prog_1_method_35_code
def yX11_prepare : MethodName := ⟨RX11, "prepare", "(I)V"⟩
abbrev cX11_perform : ByteArray := prog_1_method_36_code
def yX11_perform : MethodName := ⟨RX11, "perform", "(II)V"⟩
abbrev cX11_earlierLike : ByteArray := prog_1_method_37_code
def yX11_earlierLike : MethodName := ⟨RX11, "earlierLike", "(I)I"⟩
def RX12 : String := "NobodyBreathesModel"
def TX12 : u_T := fun k => match k with
  | 0 => ("NobodyBreathesModel", "code", "I", false)
  | 1 => ("NobodyBreathesModel", "lastStep", "I", false)
  | 2 => ("NobodyBreathesModel", "echo", "I", false)
  | 3 => ("NobodyBreathesModel", "loud", "[I", true)
  | 4 => ("NobodyBreathesModel", "bar", "[I", true)
  | 5 => ("NobodyBreathesModel", "ess", "[I", true)
  | 6 => ("NobodyBreathesModel", "least", "[I", true)
  | 7 => ("NobodyBreathesModel", "singers", "I", false)
  | 8 => ("NobodyBreathesModel", "kind", "[I", true)
  | 9 => ("NobodyBreathesModel", "voice", "[I", true)
  | 10 => ("NobodyBreathesModel", "hold", "[I", true)
  | 11 => ("NobodyBreathesModel", "number", "[I", true)
  | 12 => ("NobodyBreathesModel", "breath", "[I", true)
  | 13 => ("NobodyBreathesModel", "tape", "[B", true)
  | 14 => ("NobodyBreathesModel", "taped", "I", false)
  | 15 => ("NobodyBreathesModel", "texts", "I", false)
  | 16 => ("NobodyBreathesModel", "inForce", "I", false)
  | 17 => ("NobodyBreathesModel", "act", "[I", true)
  | 18 => ("NobodyBreathesModel", "with", "[I", true)
  | 19 => ("NobodyBreathesModel", "endOf", "[I", true)
  | 20 => ("NobodyBreathesModel", "laid", "I", false)
  | 21 => ("NobodyBreathesModel", "fault", "I", false)
  | 22 => ("NobodyBreathesModel", "open", "I", false)
  | 23 => ("NobodyBreathesModel", "from", "I", false)
  | 24 => ("NobodyBreathesModel", "to", "I", false)
  | 25 => ("NobodyBreathesModel", "sortNow", "I", false)
  | 26 => ("NobodyBreathesModel", "isNow", "I", false)
  | 27 => ("NobodyBreathesModel", "pile", "[I", true)
  | 28 => ("NobodyBreathesModel", "facts", "[I", true)
  | 29 => ("NobodyBreathesModel", "letters", "[I", true)
  | 30 => ("NobodyBreathesModel", "meant", "[I", true)
  | 31 => ("NobodyBreathesModel", "sung", "[I", true)
  | 32 => ("NobodyBreathesModel", "left", "[I", true)
  | 33 => ("NobodyBreathesModel", "often", "[I", true)
  | 34 => ("NobodyBreathesModel", "sings", "[Z", true)
  | 35 => ("NobodyBreathesModel", "sang", "[Z", true)
  | 36 => ("NobodyBreathesModel", "lostSinger", "I", false)
  | 37 => ("NobodyBreathesModel", "lostStep", "I", false)
  | 38 => ("NobodyBreathesModel", "moreSinger", "I", false)
  | 39 => ("NobodyBreathesModel", "moreStep", "I", false)
  | 40 => ("NobodyBreathesModel", "sameLoud", "I", false)
  | 41 => ("NobodyBreathesModel", "thinSince", "[I", true)
  | 42 => ("NobodyBreathesModel", "sungThen", "[I", true)
  | 43 => ("NobodyBreathesModel", "leftThen", "[I", true)
  | 44 => ("NobodyBreathesModel", "hasImage", "Z", false)
  | 45 => ("NobodyBreathesModel", "keptLast", "I", false)
  | 46 => ("NobodyBreathesModel", "keptEcho", "I", false)
  | 47 => ("NobodyBreathesModel", "keptRule", "I", false)
  | 48 => ("NobodyBreathesModel", "keptSingers", "I", false)
  | 49 => ("NobodyBreathesModel", "keptLoud", "[I", true)
  | 50 => ("NobodyBreathesModel", "keptBar", "[I", true)
  | 51 => ("NobodyBreathesModel", "keptEss", "[I", true)
  | 52 => ("NobodyBreathesModel", "keptLeast", "[I", true)
  | 53 => ("NobodyBreathesModel", "keptVoice", "[I", true)
  | 54 => ("NobodyBreathesModel", "sheetSort", "[I", true)
  | 55 => ("NobodyBreathesModel", "sheetSize", "[I", true)
  | 56 => ("NobodyBreathesModel", "items", "[I", true)
  | _ => ("NobodyBreathesModel", "moving", "[I", true)
def tyX12 : Nat → FieldType := fun k => match k with
  | 0 => .int
  | 1 => .int
  | 2 => .int
  | 3 => .array .int
  | 4 => .array .int
  | 5 => .array .int
  | 6 => .array .int
  | 7 => .int
  | 8 => .array .int
  | 9 => .array .int
  | 10 => .array .int
  | 11 => .array .int
  | 12 => .array .int
  | 13 => .array .byte
  | 14 => .int
  | 15 => .int
  | 16 => .int
  | 17 => .array .int
  | 18 => .array .int
  | 19 => .array .int
  | 20 => .int
  | 21 => .int
  | 22 => .int
  | 23 => .int
  | 24 => .int
  | 25 => .int
  | 26 => .int
  | 27 => .array .int
  | 28 => .array .int
  | 29 => .array .int
  | 30 => .array .int
  | 31 => .array .int
  | 32 => .array .int
  | 33 => .array .int
  | 34 => .array .boolean
  | 35 => .array .boolean
  | 36 => .int
  | 37 => .int
  | 38 => .int
  | 39 => .int
  | 40 => .int
  | 41 => .array .int
  | 42 => .array .int
  | 43 => .array .int
  | 44 => .boolean
  | 45 => .int
  | 46 => .int
  | 47 => .int
  | 48 => .int
  | 49 => .array .int
  | 50 => .array .int
  | 51 => .array .int
  | 52 => .array .int
  | 53 => .array .int
  | 54 => .array .int
  | 55 => .array .int
  | 56 => .array .int
  | _ => .array .int
theorem nmX12 : ∀ a, a < 58 → ∀ b, b < 58 → a ≠ b → (TX12 a).2.1 ≠ (TX12 b).2.1 := by decide +kernel
theorem tyX12_ok : ∀ k, k < 58 → parseFieldDescriptor (TX12 k).2.2.1 = some (tyX12 k) := by decide +kernel
abbrev cX12_init : ByteArray := prog_14_method_1_code
def yX12_init : MethodName := ⟨RX12, "<init>", "()V"⟩
abbrev cX12_in : ByteArray := prog_14_method_3_code
def yX12_in : MethodName := ⟨RX12, "in", "(III)Z"⟩
abbrev cX12_held : ByteArray := prog_14_method_4_code
def yX12_held : MethodName := ⟨RX12, "held", "(II)I"⟩
abbrev cX12_isSinger : ByteArray := prog_14_method_5_code
def yX12_isSinger : MethodName := ⟨RX12, "isSinger", "(I)Z"⟩
abbrev cX12_isStep : ByteArray := prog_14_method_6_code
def yX12_isStep : MethodName := ⟨RX12, "isStep", "(I)Z"⟩
abbrev cX12_set : ByteArray := prog_14_method_7_code
def yX12_set : MethodName := ⟨RX12, "set", "(III)I"⟩
abbrev cX12_singer : ByteArray := prog_14_method_8_code
def yX12_singer : MethodName := ⟨RX12, "singer", "(III)I"⟩
abbrev cX12_voice : ByteArray := prog_14_method_9_code
def yX12_voice : MethodName := ⟨RX12, "voice", "(II)I"⟩
abbrev cX12_canHold : ByteArray := prog_14_method_10_code
def yX12_canHold : MethodName := ⟨RX12, "canHold", "(III)I"⟩
abbrev cX12_takes : ByteArray := prog_14_method_11_code
def yX12_takes : MethodName := ⟨RX12, "takes", "(II)I"⟩
abbrev cX12_doesSay : ByteArray := prog_14_method_12_code
def yX12_doesSay : MethodName := ⟨RX12, "doesSay", "(II)Z"⟩
abbrev cX12_told : ByteArray := prog_14_method_13_code
def yX12_told : MethodName := ⟨RX12, "told", "(IIII)I"⟩
abbrev cX12_feed : ByteArray := prog_14_method_14_code
def yX12_feed : MethodName := ⟨RX12, "feed", "(IJ)I"⟩
abbrev cX12_isLetter : ByteArray := prog_14_method_15_code
def yX12_isLetter : MethodName := ⟨RX12, "isLetter", "(I)Z"⟩
abbrev cX12_isDigit : ByteArray := prog_14_method_16_code
def yX12_isDigit : MethodName := ⟨RX12, "isDigit", "(I)Z"⟩
abbrev cX12_wordNow : ByteArray := prog_14_method_17_code
def yX12_wordNow : MethodName := ⟨RX12, "wordNow", "()I"⟩
abbrev cX12_next : ByteArray := prog_14_method_18_code
def yX12_next : MethodName := ⟨RX12, "next", "()V"⟩
abbrev cX12_faulty : ByteArray := prog_14_method_19_code
def yX12_faulty : MethodName := ⟨RX12, "faulty", "()V"⟩
abbrev cX12_isSign : ByteArray := prog_14_method_20_code
def yX12_isSign : MethodName := ⟨RX12, "isSign", "(I)Z"⟩
abbrev cX12_isKey : ByteArray := prog_14_method_21_code
def yX12_isKey : MethodName := ⟨RX12, "isKey", "(I)Z"⟩
abbrev cX12_addStep : ByteArray := prog_14_method_22_code
def yX12_addStep : MethodName := ⟨RX12, "addStep", "(II)V"⟩
abbrev cX12_opens : ByteArray := prog_14_method_23_code
def yX12_opens : MethodName := ⟨RX12, "opens", "()Z"⟩
abbrev cX12_either : ByteArray := prog_14_method_24_code
def yX12_either : MethodName := ⟨RX12, "either", "()V"⟩
abbrev cX12_all : ByteArray := prog_14_method_25_code
def yX12_all : MethodName := ⟨RX12, "all", "()V"⟩
abbrev cX12_denied : ByteArray := prog_14_method_26_code
def yX12_denied : MethodName := ⟨RX12, "denied", "()V"⟩
abbrev cX12_sum : ByteArray := prog_14_method_27_code
def yX12_sum : MethodName := ⟨RX12, "sum", "()V"⟩
abbrev cX12_term : ByteArray := prog_14_method_28_code
def yX12_term : MethodName := ⟨RX12, "term", "()V"⟩
abbrev cX12_one : ByteArray := prog_14_method_29_code
def yX12_one : MethodName := ⟨RX12, "one", "()V"⟩
abbrev cX12_rule : ByteArray := prog_14_method_30_code
def yX12_rule : MethodName := ⟨RX12, "rule", "(I)V"⟩
abbrev cX12_text : ByteArray := prog_14_method_31_code
def yX12_text : MethodName := ⟨RX12, "text", "()I"⟩
abbrev cX12_force : ByteArray := prog_14_method_32_code
def yX12_force : MethodName := ⟨RX12, "force", "(I)I"⟩
abbrev cX12_twoOf : ByteArray := prog_14_method_33_code
def yX12_twoOf : MethodName := ⟨RX12, "twoOf", "(III)I"⟩
abbrev cX12_gives : ByteArray := prog_14_method_34_code
def yX12_gives : MethodName := ⟨RX12, "gives", "(I)I"⟩
abbrev cX12_isWay : ByteArray := prog_14_method_35_code
def yX12_isWay : MethodName := ⟨RX12, "isWay", "(I)Z"⟩
abbrev cX12_isMissing : ByteArray := prog_14_method_36_code
def yX12_isMissing : MethodName := ⟨RX12, "isMissing", "(I)Z"⟩
abbrev cX12_loudAt : ByteArray := prog_14_method_37_code
def yX12_loudAt : MethodName := ⟨RX12, "loudAt", "(I)I"⟩
abbrev cX12_begin : ByteArray := prog_14_method_38_code
def yX12_begin : MethodName := ⟨RX12, "begin", "()V"⟩
abbrev cX12_isPlanned : ByteArray := prog_14_method_39_code
def yX12_isPlanned : MethodName := ⟨RX12, "isPlanned", "(III)Z"⟩
abbrev cX12_findFacts : ByteArray := prog_14_method_40_code
def yX12_findFacts : MethodName := ⟨RX12, "findFacts", "(II)V"⟩
abbrev cX12_breathes : ByteArray := prog_14_method_41_code
def yX12_breathes : MethodName := ⟨RX12, "breathes", "(III)Z"⟩
abbrev cX12_go : ByteArray := prog_14_method_42_code
def yX12_go : MethodName := ⟨RX12, "go", "(II)V"⟩
abbrev cX12_ofVoice : ByteArray := prog_14_method_43_code
def yX12_ofVoice : MethodName := ⟨RX12, "ofVoice", "(I)I"⟩
abbrev cX12_sing : ByteArray := prog_14_method_44_code
def yX12_sing : MethodName := ⟨RX12, "sing", "(II)I"⟩
abbrev cX12_of : ByteArray := prog_14_method_45_code
def yX12_of : MethodName := ⟨RX12, "of", "(III)I"⟩
abbrev cX12_lookThin : ByteArray := prog_14_method_46_code
def yX12_lookThin : MethodName := ⟨RX12, "lookThin", "()V"⟩
abbrev cX12_beginThin : ByteArray := prog_14_method_47_code
def yX12_beginThin : MethodName := ⟨RX12, "beginThin", "()V"⟩
abbrev cX12_isHeard : ByteArray := prog_14_method_48_code
def yX12_isHeard : MethodName := ⟨RX12, "isHeard", "(I)Z"⟩
abbrev cX12_wrongIn : ByteArray := prog_14_method_49_code
def yX12_wrongIn : MethodName := ⟨RX12, "wrongIn", "(I)I"⟩
abbrev cX12_wrong : ByteArray := prog_14_method_50_code
def yX12_wrong : MethodName := ⟨RX12, "wrong", "(I)I"⟩
abbrev cX12_badOf : ByteArray := prog_14_method_51_code
def yX12_badOf : MethodName := ⟨RX12, "badOf", "(I)J"⟩
abbrev cX12_bad : ByteArray := prog_14_method_52_code
def yX12_bad : MethodName := ⟨RX12, "bad", "(I)J"⟩
abbrev cX12_breaths : ByteArray := prog_14_method_53_code
def yX12_breaths : MethodName := ⟨RX12, "breaths", "(II)I"⟩
abbrev cX12_fewest : ByteArray := prog_14_method_54_code
def yX12_fewest : MethodName := ⟨RX12, "fewest", "(III)I"⟩
abbrev cX12_isLike : ByteArray := prog_14_method_55_code
def yX12_isLike : MethodName := ⟨RX12, "isLike", "(II)Z"⟩
abbrev cX12_round : ByteArray := prog_14_method_56_code
def yX12_round : MethodName := ⟨RX12, "round", "(III)I"⟩
abbrev cX12_lent : ByteArray := prog_14_method_57_code
def yX12_lent : MethodName := ⟨RX12, "lent", "(III)J"⟩
abbrev cX12_lost : ByteArray := prog_14_method_58_code
def yX12_lost : MethodName := ⟨RX12, "lost", "(III)J"⟩
abbrev cX12_who : ByteArray := prog_14_method_59_code
def yX12_who : MethodName := ⟨RX12, "who", "(I)I"⟩
abbrev cX12_image : ByteArray := prog_14_method_60_code
def yX12_image : MethodName := ⟨RX12, "image", "()I"⟩
abbrev cX12_back : ByteArray := prog_14_method_61_code
def yX12_back : MethodName := ⟨RX12, "back", "()I"⟩
abbrev cX12_count : ByteArray := prog_14_method_62_code
def yX12_count : MethodName := ⟨RX12, "count", "(I)I"⟩
abbrev cX12_isSheet : ByteArray := prog_14_method_63_code
def yX12_isSheet : MethodName := ⟨RX12, "isSheet", "(I)Z"⟩
abbrev cX12_sheet : ByteArray := prog_14_method_64_code
def yX12_sheet : MethodName := ⟨RX12, "sheet", "(III)I"⟩
abbrev cX12_cell : ByteArray := prog_14_method_65_code
def yX12_cell : MethodName := ⟨RX12, "cell", "(III)I"⟩
abbrev cX12_copy : ByteArray := prog_14_method_66_code
def yX12_copy : MethodName := ⟨RX12, "copy", "(IIIII)I"⟩
abbrev cX12_singers : ByteArray := prog_14_method_67_code
def yX12_singers : MethodName := ⟨RX12, "singers", "(IIII)I"⟩
abbrev cX12_isUnder : ByteArray := prog_14_method_68_code
def yX12_isUnder : MethodName := ⟨RX12, "isUnder", "(II)Z"⟩
abbrev cX12_taken : ByteArray := prog_14_method_69_code
def yX12_taken : MethodName := ⟨RX12, "taken", "(II)I"⟩
def RJx145de : String := "java/io/Serializable"
def TJx145de : u_T := fun k => match k with
  | _ => ("", "", "", false)
def tyJx145de : Nat → FieldType := fun k => match k with
  | _ => .int
theorem nmJx145de : ∀ a, a < 0 → ∀ b, b < 0 → a ≠ b → (TJx145de a).2.1 ≠ (TJx145de b).2.1 := by decide +kernel
theorem tyJx145de_ok : ∀ k, k < 0 → parseFieldDescriptor (TJx145de k).2.2.1 = some (tyJx145de k) := by decide +kernel
def RJx9f9b0 : String := "java/lang/CharSequence"
def TJx9f9b0 : u_T := fun k => match k with
  | _ => ("", "", "", false)
def tyJx9f9b0 : Nat → FieldType := fun k => match k with
  | _ => .int
theorem nmJx9f9b0 : ∀ a, a < 0 → ∀ b, b < 0 → a ≠ b → (TJx9f9b0 a).2.1 ≠ (TJx9f9b0 b).2.1 := by decide +kernel
theorem tyJx9f9b0_ok : ∀ k, k < 0 → parseFieldDescriptor (TJx9f9b0 k).2.2.1 = some (tyJx9f9b0 k) := by decide +kernel
def RJ11 : String := "java/lang/Character"
def TJ11 : u_T := fun k => match k with
  | _ => ("", "", "", false)
def tyJ11 : Nat → FieldType := fun k => match k with
  | _ => .int
theorem nmJ11 : ∀ a, a < 0 → ∀ b, b < 0 → a ≠ b → (TJ11 a).2.1 ≠ (TJ11 b).2.1 := by decide +kernel
theorem tyJ11_ok : ∀ k, k < 0 → parseFieldDescriptor (TJ11 k).2.2.1 = some (tyJ11 k) := by decide +kernel
abbrev cJ11_isValidCodePoint_9a6ad : ByteArray := prog_15_method_11_code
def yJ11_isValidCodePoint_9a6ad : MethodName := ⟨RJ11, "isValidCodePoint", "(I)Z"⟩
abbrev cJ11_highSurrogate_5068e : ByteArray := prog_15_method_28_code
def yJ11_highSurrogate_5068e : MethodName := ⟨RJ11, "highSurrogate", "(I)C"⟩
abbrev cJ11_lowSurrogate_5068e : ByteArray := prog_15_method_29_code
def yJ11_lowSurrogate_5068e : MethodName := ⟨RJ11, "lowSurrogate", "(I)C"⟩
def RJx8e188 : String := "java/lang/Cloneable"
def TJx8e188 : u_T := fun k => match k with
  | _ => ("", "", "", false)
def tyJx8e188 : Nat → FieldType := fun k => match k with
  | _ => .int
theorem nmJx8e188 : ∀ a, a < 0 → ∀ b, b < 0 → a ≠ b → (TJx8e188 a).2.1 ≠ (TJx8e188 b).2.1 := by decide +kernel
theorem tyJx8e188_ok : ∀ k, k < 0 → parseFieldDescriptor (TJx8e188 k).2.2.1 = some (tyJx8e188 k) := by decide +kernel
def RJxb160c : String := "java/lang/Comparable"
def TJxb160c : u_T := fun k => match k with
  | _ => ("", "", "", false)
def tyJxb160c : Nat → FieldType := fun k => match k with
  | _ => .int
theorem nmJxb160c : ∀ a, a < 0 → ∀ b, b < 0 → a ≠ b → (TJxb160c a).2.1 ≠ (TJxb160c b).2.1 := by decide +kernel
theorem tyJxb160c_ok : ∀ k, k < 0 → parseFieldDescriptor (TJxb160c k).2.2.1 = some (tyJxb160c k) := by decide +kernel
def RJ6 : String := "java/lang/Integer"
def TJ6 : u_T := fun k => match k with
  | _ => ("", "", "", false)
def tyJ6 : Nat → FieldType := fun k => match k with
  | _ => .int
theorem nmJ6 : ∀ a, a < 0 → ∀ b, b < 0 → a ≠ b → (TJ6 a).2.1 ≠ (TJ6 b).2.1 := by decide +kernel
theorem tyJ6_ok : ∀ k, k < 0 → parseFieldDescriptor (TJ6 k).2.2.1 = some (tyJ6 k) := by decide +kernel
abbrev cJ6_bitCount_0f7a4 : ByteArray := prog_17_method_49_code
def yJ6_bitCount_0f7a4 : MethodName := ⟨RJ6, "bitCount", "(I)I"⟩
def RJ9 : String := "java/lang/Math"
def TJ9 : u_T := fun k => match k with
  | _ => ("", "", "", false)
def tyJ9 : Nat → FieldType := fun k => match k with
  | _ => .int
theorem nmJ9 : ∀ a, a < 0 → ∀ b, b < 0 → a ≠ b → (TJ9 a).2.1 ≠ (TJ9 b).2.1 := by decide +kernel
theorem tyJ9_ok : ∀ k, k < 0 → parseFieldDescriptor (TJ9 k).2.2.1 = some (tyJ9 k) := by decide +kernel
abbrev cJ9_max_7cf53 : ByteArray := prog_18_method_65_code
def yJ9_max_7cf53 : MethodName := ⟨RJ9, "max", "(II)I"⟩
abbrev cJ9_min_7cf53 : ByteArray := prog_18_method_69_code
def yJ9_min_7cf53 : MethodName := ⟨RJ9, "min", "(II)I"⟩
def RJ0 : String := "java/lang/String"
def TJ0 : u_T := fun k => match k with
  | _ => ("", "", "", false)
def tyJ0 : Nat → FieldType := fun k => match k with
  | _ => .int
theorem nmJ0 : ∀ a, a < 0 → ∀ b, b < 0 → a ≠ b → (TJ0 a).2.1 ≠ (TJ0 b).2.1 := by decide +kernel
theorem tyJ0_ok : ∀ k, k < 0 → parseFieldDescriptor (TJ0 k).2.2.1 = some (tyJ0 k) := by decide +kernel
abbrev cJ0_length_8abf5 : ByteArray := prog_19_method_54_code
def yJ0_length_8abf5 : MethodName := ⟨RJ0, "length", "()I"⟩
abbrev cJ0_charAt_5068e : ByteArray := prog_19_method_56_code
def yJ0_charAt_5068e : MethodName := ⟨RJ0, "charAt", "(I)C"⟩
abbrev cJ0_indexOf_0f7a4 : ByteArray := prog_19_method_79_code
def yJ0_indexOf_0f7a4 : MethodName := ⟨RJ0, "indexOf", "(I)I"⟩
abbrev cJ0_indexOf_7cf53 : ByteArray := prog_19_method_80_code
def yJ0_indexOf_7cf53 : MethodName := ⟨RJ0, "indexOf", "(II)I"⟩
abbrev cJ0_coder_7d493 : ByteArray := prog_19_method_152_code
def yJ0_coder_7d493 : MethodName := ⟨RJ0, "coder", "()B"⟩
abbrev cJ0_isLatin1_aae02 : ByteArray := prog_19_method_154_code
def yJ0_isLatin1_aae02 : MethodName := ⟨RJ0, "isLatin1", "()Z"⟩
abbrev cJ0_checkIndex_df160 : ByteArray := prog_19_method_155_code
def yJ0_checkIndex_df160 : MethodName := ⟨RJ0, "checkIndex", "(II)V"⟩
abbrev cJ0_checkBoundsBeginEnd_23922 : ByteArray := prog_19_method_158_code
def yJ0_checkBoundsBeginEnd_23922 : MethodName := ⟨RJ0, "checkBoundsBeginEnd", "(III)V"⟩
def RJ1 : String := "java/lang/StringLatin1"
def TJ1 : u_T := fun k => match k with
  | _ => ("", "", "", false)
def tyJ1 : Nat → FieldType := fun k => match k with
  | _ => .int
theorem nmJ1 : ∀ a, a < 0 → ∀ b, b < 0 → a ≠ b → (TJ1 a).2.1 ≠ (TJ1 b).2.1 := by decide +kernel
theorem tyJ1_ok : ∀ k, k < 0 → parseFieldDescriptor (TJ1 k).2.2.1 = some (tyJ1 k) := by decide +kernel
abbrev cJ1_charAt_3b067 : ByteArray := prog_20_method_2_code
def yJ1_charAt_3b067 : MethodName := ⟨RJ1, "charAt", "([BI)C"⟩
abbrev cJ1_canEncode_9a6ad : ByteArray := prog_20_method_4_code
def yJ1_canEncode_9a6ad : MethodName := ⟨RJ1, "canEncode", "(I)Z"⟩
abbrev cJ1_indexOf_4cfef : ByteArray := prog_20_method_22_code
def yJ1_indexOf_4cfef : MethodName := ⟨RJ1, "indexOf", "([BIII)I"⟩
abbrev cJ1_indexOfChar_4cfef : ByteArray := prog_20_method_23_code
def yJ1_indexOfChar_4cfef : MethodName := ⟨RJ1, "indexOfChar", "([BIII)I"⟩
def RJ2 : String := "java/lang/StringUTF16"
def TJ2 : u_T := fun k => match k with
  | _ => ("", "", "", false)
def tyJ2 : Nat → FieldType := fun k => match k with
  | _ => .int
theorem nmJ2 : ∀ a, a < 0 → ∀ b, b < 0 → a ≠ b → (TJ2 a).2.1 ≠ (TJ2 b).2.1 := by decide +kernel
theorem tyJ2_ok : ∀ k, k < 0 → parseFieldDescriptor (TJ2 k).2.2.1 = some (tyJ2 k) := by decide +kernel
abbrev cJ2_getChar_3b067 : ByteArray := prog_21_method_5_code
def yJ2_getChar_3b067 : MethodName := ⟨RJ2, "getChar", "([BI)C"⟩
abbrev cJ2_length_9d52b : ByteArray := prog_21_method_6_code
def yJ2_length_9d52b : MethodName := ⟨RJ2, "length", "([B)I"⟩
abbrev cJ2_indexOf_4cfef : ByteArray := prog_21_method_40_code
def yJ2_indexOf_4cfef : MethodName := ⟨RJ2, "indexOf", "([BIII)I"⟩
abbrev cJ2_indexOfChar_4cfef : ByteArray := prog_21_method_47_code
def yJ2_indexOfChar_4cfef : MethodName := ⟨RJ2, "indexOfChar", "([BIII)I"⟩
abbrev cJ2_indexOfCharUnsafe_4cfef : ByteArray := prog_21_method_48_code
def yJ2_indexOfCharUnsafe_4cfef : MethodName := ⟨RJ2, "indexOfCharUnsafe", "([BIII)I"⟩
abbrev cJ2_indexOfSupplementary_4cfef : ByteArray := prog_21_method_49_code
def yJ2_indexOfSupplementary_4cfef : MethodName := ⟨RJ2, "indexOfSupplementary", "([BIII)I"⟩
abbrev cJ2_charAt_3b067 : ByteArray := prog_21_method_83_code
def yJ2_charAt_3b067 : MethodName := ⟨RJ2, "charAt", "([BI)C"⟩
abbrev cJ2_checkIndex_2214a : ByteArray := prog_21_method_91_code
def yJ2_checkIndex_2214a : MethodName := ⟨RJ2, "checkIndex", "(I[B)V"⟩
abbrev cJ2_checkBoundsBeginEnd_d044e : ByteArray := prog_21_method_93_code
def yJ2_checkBoundsBeginEnd_d044e : MethodName := ⟨RJ2, "checkBoundsBeginEnd", "(II[B)V"⟩
def RJ10 : String := "java/lang/System"
def TJ10 : u_T := fun k => match k with
  | _ => ("", "", "", false)
def tyJ10 : Nat → FieldType := fun k => match k with
  | _ => .int
theorem nmJ10 : ∀ a, a < 0 → ∀ b, b < 0 → a ≠ b → (TJ10 a).2.1 ≠ (TJ10 b).2.1 := by decide +kernel
theorem tyJ10_ok : ∀ k, k < 0 → parseFieldDescriptor (TJ10 k).2.2.1 = some (tyJ10 k) := by decide +kernel
def RJxfd54e : String := "java/lang/constant/Constable"
def TJxfd54e : u_T := fun k => match k with
  | _ => ("", "", "", false)
def tyJxfd54e : Nat → FieldType := fun k => match k with
  | _ => .int
theorem nmJxfd54e : ∀ a, a < 0 → ∀ b, b < 0 → a ≠ b → (TJxfd54e a).2.1 ≠ (TJxfd54e b).2.1 := by decide +kernel
theorem tyJxfd54e_ok : ∀ k, k < 0 → parseFieldDescriptor (TJxfd54e k).2.2.1 = some (tyJxfd54e k) := by decide +kernel
def RJx3cf43 : String := "java/lang/constant/ConstantDesc"
def TJx3cf43 : u_T := fun k => match k with
  | _ => ("", "", "", false)
def tyJx3cf43 : Nat → FieldType := fun k => match k with
  | _ => .int
theorem nmJx3cf43 : ∀ a, a < 0 → ∀ b, b < 0 → a ≠ b → (TJx3cf43 a).2.1 ≠ (TJx3cf43 b).2.1 := by decide +kernel
theorem tyJx3cf43_ok : ∀ k, k < 0 → parseFieldDescriptor (TJx3cf43 k).2.2.1 = some (tyJx3cf43 k) := by decide +kernel
def RJ7 : String := "java/util/Arrays"
def TJ7 : u_T := fun k => match k with
  | _ => ("", "", "", false)
def tyJ7 : Nat → FieldType := fun k => match k with
  | _ => .int
theorem nmJ7 : ∀ a, a < 0 → ∀ b, b < 0 → a ≠ b → (TJ7 a).2.1 ≠ (TJ7 b).2.1 := by decide +kernel
theorem tyJ7_ok : ∀ k, k < 0 → parseFieldDescriptor (TJ7 k).2.2.1 = some (tyJ7 k) := by decide +kernel
abbrev cJ7_fill_d0a16 : ByteArray := prog_23_method_101_code
def yJ7_fill_d0a16 : MethodName := ⟨RJ7, "fill", "([JJ)V"⟩
abbrev cJ7_fill_53178 : ByteArray := prog_23_method_103_code
def yJ7_fill_53178 : MethodName := ⟨RJ7, "fill", "([II)V"⟩
abbrev cJ7_copyOf_59c91 : ByteArray := prog_23_method_123_code
def yJ7_copyOf_59c91 : MethodName := ⟨RJ7, "copyOf", "([II)[I"⟩
def RJ3 : String := "jdk/internal/util/Preconditions"
def TJ3 : u_T := fun k => match k with
  | _ => ("", "", "", false)
def tyJ3 : Nat → FieldType := fun k => match k with
  | _ => .int
theorem nmJ3 : ∀ a, a < 0 → ∀ b, b < 0 → a ≠ b → (TJ3 a).2.1 ≠ (TJ3 b).2.1 := by decide +kernel
theorem tyJ3_ok : ∀ k, k < 0 → parseFieldDescriptor (TJ3 k).2.2.1 = some (tyJ3 k) := by decide +kernel
abbrev cJ3_checkIndex_8e157 : ByteArray := prog_24_method_11_code
def yJ3_checkIndex_8e157 : MethodName := ⟨RJ3, "checkIndex", "(IILjava/util/function/BiFunction;)I"⟩
abbrev cJ3_checkFromToIndex_8c36e : ByteArray := prog_24_method_12_code
def yJ3_checkFromToIndex_8c36e : MethodName := ⟨RJ3, "checkFromToIndex", "(IIILjava/util/function/BiFunction;)I"⟩
def RL : String := "NobodyBreathesLaw"
abbrev cL_law : ByteArray := code
end
section
theorem dX0_init_0 : decode cX0_init 0 = .ok (.aload_n 0, 1) := by decide +kernel
theorem dX0_init_1 : decode cX0_init 1 = .ok (.iload_n 1, 1) := by decide +kernel
theorem dX0_init_2 : decode cX0_init 2 = .ok (.iload_n 2, 1) := by decide +kernel
theorem dX0_init_3 : decode cX0_init 3 = .ok (.iload_n 3, 1) := by decide +kernel
theorem dX0_init_4 : decode cX0_init 4 = .ok (.invokespecial 1, 3) := by decide +kernel
theorem dX0_init_7 : decode cX0_init 7 = .ok (.return_, 1) := by decide +kernel
theorem dX0_kind_0 : decode cX0_kind 0 = .ok (.iconst 5, 1) := by decide +kernel
theorem dX0_kind_1 : decode cX0_kind 1 = .ok (.ireturn, 1) := by decide +kernel
theorem dX0_isUnder_0 : decode cX0_isUnder 0 = .ok (.iload_n 1, 1) := by decide +kernel
theorem dX0_isUnder_1 : decode cX0_isUnder 1 = .ok (.iconst 5, 1) := by decide +kernel
theorem dX0_isUnder_2 : decode cX0_isUnder 2 = .ok (.if_icmp .eq 11, 3) := by decide +kernel
theorem dX0_isUnder_5 : decode cX0_isUnder 5 = .ok (.aload_n 0, 1) := by decide +kernel
theorem dX0_isUnder_6 : decode cX0_isUnder 6 = .ok (.iload_n 1, 1) := by decide +kernel
theorem dX0_isUnder_7 : decode cX0_isUnder 7 = .ok (.invokespecial 9, 3) := by decide +kernel
theorem dX0_isUnder_10 : decode cX0_isUnder 10 = .ok (.ifCond .eq 7, 3) := by decide +kernel
theorem dX0_isUnder_13 : decode cX0_isUnder 13 = .ok (.iconst 1, 1) := by decide +kernel
theorem dX0_isUnder_14 : decode cX0_isUnder 14 = .ok (.goto 4, 3) := by decide +kernel
theorem dX0_isUnder_17 : decode cX0_isUnder 17 = .ok (.iconst 0, 1) := by decide +kernel
theorem dX0_isUnder_18 : decode cX0_isUnder 18 = .ok (.ireturn, 1) := by decide +kernel
theorem dX0_reach_0 : decode cX0_reach 0 = .ok (.aload_n 0, 1) := by decide +kernel
theorem dX0_reach_1 : decode cX0_reach 1 = .ok (.iload_n 1, 1) := by decide +kernel
theorem dX0_reach_2 : decode cX0_reach 2 = .ok (.iload_n 2, 1) := by decide +kernel
theorem dX0_reach_3 : decode cX0_reach 3 = .ok (.invokespecial 13, 3) := by decide +kernel
theorem dX0_reach_6 : decode cX0_reach 6 = .ok (.iconst 2, 1) := by decide +kernel
theorem dX0_reach_7 : decode cX0_reach 7 = .ok (.idiv, 1) := by decide +kernel
theorem dX0_reach_8 : decode cX0_reach 8 = .ok (.ireturn, 1) := by decide +kernel
theorem dX0_silentSteps_0 : decode cX0_silentSteps 0 = .ok (.iconst 2, 1) := by decide +kernel
theorem dX0_silentSteps_1 : decode cX0_silentSteps 1 = .ok (.aload_n 0, 1) := by decide +kernel
theorem dX0_silentSteps_2 : decode cX0_silentSteps 2 = .ok (.iload_n 1, 1) := by decide +kernel
theorem dX0_silentSteps_3 : decode cX0_silentSteps 3 = .ok (.invokespecial 17, 3) := by decide +kernel
theorem dX0_silentSteps_6 : decode cX0_silentSteps 6 = .ok (.imul, 1) := by decide +kernel
theorem dX0_silentSteps_7 : decode cX0_silentSteps 7 = .ok (.ireturn, 1) := by decide +kernel
theorem dX0_says_0 : decode cX0_says 0 = .ok (.iconst 1, 1) := by decide +kernel
theorem dX0_says_1 : decode cX0_says 1 = .ok (.ireturn, 1) := by decide +kernel
theorem dX1_init_0 : decode cX1_init 0 = .ok (.aload_n 0, 1) := by decide +kernel
theorem dX1_init_1 : decode cX1_init 1 = .ok (.invokespecial 3, 3) := by decide +kernel
theorem dX1_init_4 : decode cX1_init 4 = .ok (.aload_n 0, 1) := by decide +kernel
theorem dX1_init_5 : decode cX1_init 5 = .ok (.bipush 6, 2) := by decide +kernel
theorem dX1_init_7 : decode cX1_init 7 = .ok (.newarray .int, 2) := by decide +kernel
theorem dX1_init_9 : decode cX1_init 9 = .ok (.putfield 11, 3) := by decide +kernel
theorem dX1_init_12 : decode cX1_init 12 = .ok (.aload_n 0, 1) := by decide +kernel
theorem dX1_init_13 : decode cX1_init 13 = .ok (.bipush 10, 2) := by decide +kernel
theorem dX1_init_15 : decode cX1_init 15 = .ok (.newarray .int, 2) := by decide +kernel
theorem dX1_init_17 : decode cX1_init 17 = .ok (.putfield 17, 3) := by decide +kernel
theorem dX1_init_20 : decode cX1_init 20 = .ok (.aload_n 0, 1) := by decide +kernel
theorem dX1_init_21 : decode cX1_init 21 = .ok (.bipush 10, 2) := by decide +kernel
theorem dX1_init_23 : decode cX1_init 23 = .ok (.newarray .int, 2) := by decide +kernel
theorem dX1_init_25 : decode cX1_init 25 = .ok (.putfield 20, 3) := by decide +kernel
theorem dX1_init_28 : decode cX1_init 28 = .ok (.aload_n 0, 1) := by decide +kernel
theorem dX1_init_29 : decode cX1_init 29 = .ok (.bipush 10, 2) := by decide +kernel
theorem dX1_init_31 : decode cX1_init 31 = .ok (.newarray .int, 2) := by decide +kernel
theorem dX1_init_33 : decode cX1_init 33 = .ok (.putfield 23, 3) := by decide +kernel
theorem dX1_init_36 : decode cX1_init 36 = .ok (.aload_n 0, 1) := by decide +kernel
theorem dX1_init_37 : decode cX1_init 37 = .ok (.bipush 10, 2) := by decide +kernel
theorem dX1_init_39 : decode cX1_init 39 = .ok (.newarray .long, 2) := by decide +kernel
theorem dX1_init_41 : decode cX1_init 41 = .ok (.putfield 26, 3) := by decide +kernel
theorem dX1_init_44 : decode cX1_init 44 = .ok (.aload_n 0, 1) := by decide +kernel
theorem dX1_init_45 : decode cX1_init 45 = .ok (.iconst 4, 1) := by decide +kernel
theorem dX1_init_46 : decode cX1_init 46 = .ok (.newarray .int, 2) := by decide +kernel
theorem dX1_init_48 : decode cX1_init 48 = .ok (.putfield 30, 3) := by decide +kernel
theorem dX1_init_51 : decode cX1_init 51 = .ok (.aload_n 0, 1) := by decide +kernel
theorem dX1_init_52 : decode cX1_init 52 = .ok (.iconst 4, 1) := by decide +kernel
theorem dX1_init_53 : decode cX1_init 53 = .ok (.newarray .int, 2) := by decide +kernel
theorem dX1_init_55 : decode cX1_init 55 = .ok (.putfield 33, 3) := by decide +kernel
theorem dX1_init_58 : decode cX1_init 58 = .ok (.aload_n 0, 1) := by decide +kernel
theorem dX1_init_59 : decode cX1_init 59 = .ok (.bipush 48, 2) := by decide +kernel
theorem dX1_init_61 : decode cX1_init 61 = .ok (.newarray .int, 2) := by decide +kernel
theorem dX1_init_63 : decode cX1_init 63 = .ok (.putfield 36, 3) := by decide +kernel
theorem dX1_init_66 : decode cX1_init 66 = .ok (.aload_n 0, 1) := by decide +kernel
theorem dX1_init_67 : decode cX1_init 67 = .ok (.aload_n 1, 1) := by decide +kernel
theorem dX1_init_68 : decode cX1_init 68 = .ok (.putfield 39, 3) := by decide +kernel
theorem dX1_init_71 : decode cX1_init 71 = .ok (.aload_n 0, 1) := by decide +kernel
theorem dX1_init_72 : decode cX1_init 72 = .ok (.aload_n 2, 1) := by decide +kernel
theorem dX1_init_73 : decode cX1_init 73 = .ok (.putfield 43, 3) := by decide +kernel
theorem dX1_init_76 : decode cX1_init 76 = .ok (.return_, 1) := by decide +kernel
theorem dX1_choose_0 : decode cX1_choose 0 = .ok (.aload_n 0, 1) := by decide +kernel
theorem dX1_choose_1 : decode cX1_choose 1 = .ok (.iload_n 1, 1) := by decide +kernel
theorem dX1_choose_2 : decode cX1_choose 2 = .ok (.putfield 47, 3) := by decide +kernel
theorem dX1_choose_5 : decode cX1_choose 5 = .ok (.aload_n 0, 1) := by decide +kernel
theorem dX1_choose_6 : decode cX1_choose 6 = .ok (.iload_n 2, 1) := by decide +kernel
theorem dX1_choose_7 : decode cX1_choose 7 = .ok (.putfield 51, 3) := by decide +kernel
theorem dX1_choose_10 : decode cX1_choose 10 = .ok (.aload_n 0, 1) := by decide +kernel
theorem dX1_choose_11 : decode cX1_choose 11 = .ok (.aload_n 3, 1) := by decide +kernel
theorem dX1_choose_12 : decode cX1_choose 12 = .ok (.putfield 54, 3) := by decide +kernel
theorem dX1_choose_15 : decode cX1_choose 15 = .ok (.aload_n 0, 1) := by decide +kernel
theorem dX1_choose_16 : decode cX1_choose 16 = .ok (.iconst (-1), 1) := by decide +kernel
theorem dX1_choose_17 : decode cX1_choose 17 = .ok (.putfield 58, 3) := by decide +kernel
theorem dX1_choose_20 : decode cX1_choose 20 = .ok (.return_, 1) := by decide +kernel
theorem dX1_lose_0 : decode cX1_lose 0 = .ok (.aload_n 0, 1) := by decide +kernel
theorem dX1_lose_1 : decode cX1_lose 1 = .ok (.iload_n 1, 1) := by decide +kernel
theorem dX1_lose_2 : decode cX1_lose 2 = .ok (.putfield 58, 3) := by decide +kernel
theorem dX1_lose_5 : decode cX1_lose 5 = .ok (.aload_n 0, 1) := by decide +kernel
theorem dX1_lose_6 : decode cX1_lose 6 = .ok (.iload_n 2, 1) := by decide +kernel
theorem dX1_lose_7 : decode cX1_lose 7 = .ok (.putfield 61, 3) := by decide +kernel
theorem dX1_lose_10 : decode cX1_lose 10 = .ok (.return_, 1) := by decide +kernel
theorem dX1_readPlan_0 : decode cX1_readPlan 0 = .ok (.aload_n 0, 1) := by decide +kernel
theorem dX1_readPlan_1 : decode cX1_readPlan 1 = .ok (.getfield 26, 3) := by decide +kernel
theorem dX1_readPlan_4 : decode cX1_readPlan 4 = .ok (.lconst 0, 1) := by decide +kernel
theorem dX1_readPlan_5 : decode cX1_readPlan 5 = .ok (.invokestatic 64, 3) := by decide +kernel
theorem dX1_readPlan_8 : decode cX1_readPlan 8 = .ok (.iconst 0, 1) := by decide +kernel
theorem dX1_readPlan_9 : decode cX1_readPlan 9 = .ok (.istore_n 2, 1) := by decide +kernel
theorem dX1_readPlan_10 : decode cX1_readPlan 10 = .ok (.iload_n 2, 1) := by decide +kernel
theorem dX1_readPlan_11 : decode cX1_readPlan 11 = .ok (.iconst 1, 1) := by decide +kernel
theorem dX1_readPlan_12 : decode cX1_readPlan 12 = .ok (.iadd, 1) := by decide +kernel
theorem dX1_readPlan_13 : decode cX1_readPlan 13 = .ok (.aload_n 1, 1) := by decide +kernel
theorem dX1_readPlan_14 : decode cX1_readPlan 14 = .ok (.getfield 70, 3) := by decide +kernel
theorem dX1_readPlan_17 : decode cX1_readPlan 17 = .ok (.if_icmp .ge 60, 3) := by decide +kernel
theorem dX1_readPlan_20 : decode cX1_readPlan 20 = .ok (.aload_n 1, 1) := by decide +kernel
theorem dX1_readPlan_21 : decode cX1_readPlan 21 = .ok (.getfield 75, 3) := by decide +kernel
theorem dX1_readPlan_24 : decode cX1_readPlan 24 = .ok (.iload_n 2, 1) := by decide +kernel
theorem dX1_readPlan_25 : decode cX1_readPlan 25 = .ok (.iaload, 1) := by decide +kernel
theorem dX1_readPlan_26 : decode cX1_readPlan 26 = .ok (.istore_n 3, 1) := by decide +kernel
theorem dX1_readPlan_27 : decode cX1_readPlan 27 = .ok (.aload_n 1, 1) := by decide +kernel
theorem dX1_readPlan_28 : decode cX1_readPlan 28 = .ok (.getfield 75, 3) := by decide +kernel
theorem dX1_readPlan_31 : decode cX1_readPlan 31 = .ok (.iload_n 2, 1) := by decide +kernel
theorem dX1_readPlan_32 : decode cX1_readPlan 32 = .ok (.iconst 1, 1) := by decide +kernel
theorem dX1_readPlan_33 : decode cX1_readPlan 33 = .ok (.iadd, 1) := by decide +kernel
theorem dX1_readPlan_34 : decode cX1_readPlan 34 = .ok (.iaload, 1) := by decide +kernel
theorem dX1_readPlan_35 : decode cX1_readPlan 35 = .ok (.istore 4, 2) := by decide +kernel
theorem dX1_readPlan_37 : decode cX1_readPlan 37 = .ok (.iload_n 3, 1) := by decide +kernel
theorem dX1_readPlan_38 : decode cX1_readPlan 38 = .ok (.aload_n 0, 1) := by decide +kernel
theorem dX1_readPlan_39 : decode cX1_readPlan 39 = .ok (.getfield 51, 3) := by decide +kernel
theorem dX1_readPlan_42 : decode cX1_readPlan 42 = .ok (.invokestatic 78, 3) := by decide +kernel
theorem dX1_readPlan_45 : decode cX1_readPlan 45 = .ok (.ifCond .ne 26, 3) := by decide +kernel
theorem dX1_readPlan_48 : decode cX1_readPlan 48 = .ok (.iload 4, 2) := by decide +kernel
theorem dX1_readPlan_50 : decode cX1_readPlan 50 = .ok (.bipush 48, 2) := by decide +kernel
theorem dX1_readPlan_52 : decode cX1_readPlan 52 = .ok (.invokestatic 78, 3) := by decide +kernel
theorem dX1_readPlan_55 : decode cX1_readPlan 55 = .ok (.ifCond .ne 16, 3) := by decide +kernel
theorem dX1_readPlan_58 : decode cX1_readPlan 58 = .ok (.aload_n 0, 1) := by decide +kernel
theorem dX1_readPlan_59 : decode cX1_readPlan 59 = .ok (.getfield 26, 3) := by decide +kernel
theorem dX1_readPlan_62 : decode cX1_readPlan 62 = .ok (.iload_n 3, 1) := by decide +kernel
theorem dX1_readPlan_63 : decode cX1_readPlan 63 = .ok (.dup2, 1) := by decide +kernel
theorem dX1_readPlan_64 : decode cX1_readPlan 64 = .ok (.laload, 1) := by decide +kernel
theorem dX1_readPlan_65 : decode cX1_readPlan 65 = .ok (.lconst 1, 1) := by decide +kernel
theorem dX1_readPlan_66 : decode cX1_readPlan 66 = .ok (.iload 4, 2) := by decide +kernel
theorem dX1_readPlan_68 : decode cX1_readPlan 68 = .ok (.lshl, 1) := by decide +kernel
theorem dX1_readPlan_69 : decode cX1_readPlan 69 = .ok (.lor, 1) := by decide +kernel
theorem dX1_readPlan_70 : decode cX1_readPlan 70 = .ok (.lastore, 1) := by decide +kernel
theorem dX1_readPlan_71 : decode cX1_readPlan 71 = .ok (.iinc 2 2, 3) := by decide +kernel
theorem dX1_readPlan_74 : decode cX1_readPlan 74 = .ok (.goto (-64), 3) := by decide +kernel
theorem dX1_readPlan_77 : decode cX1_readPlan 77 = .ok (.return_, 1) := by decide +kernel
theorem dX1_start_0 : decode cX1_start 0 = .ok (.aload_n 0, 1) := by decide +kernel
theorem dX1_start_1 : decode cX1_start 1 = .ok (.getfield 17, 3) := by decide +kernel
theorem dX1_start_4 : decode cX1_start 4 = .ok (.iconst 0, 1) := by decide +kernel
theorem dX1_start_5 : decode cX1_start 5 = .ok (.invokestatic 82, 3) := by decide +kernel
theorem dX1_start_8 : decode cX1_start 8 = .ok (.aload_n 0, 1) := by decide +kernel
theorem dX1_start_9 : decode cX1_start 9 = .ok (.getfield 20, 3) := by decide +kernel
theorem dX1_start_12 : decode cX1_start 12 = .ok (.iconst 0, 1) := by decide +kernel
theorem dX1_start_13 : decode cX1_start 13 = .ok (.invokestatic 82, 3) := by decide +kernel
theorem dX1_start_16 : decode cX1_start 16 = .ok (.aload_n 0, 1) := by decide +kernel
theorem dX1_start_17 : decode cX1_start 17 = .ok (.getfield 23, 3) := by decide +kernel
theorem dX1_start_20 : decode cX1_start 20 = .ok (.iconst 0, 1) := by decide +kernel
theorem dX1_start_21 : decode cX1_start 21 = .ok (.invokestatic 82, 3) := by decide +kernel
theorem dX1_start_24 : decode cX1_start 24 = .ok (.aload_n 0, 1) := by decide +kernel
theorem dX1_start_25 : decode cX1_start 25 = .ok (.getfield 30, 3) := by decide +kernel
theorem dX1_start_28 : decode cX1_start 28 = .ok (.iconst 0, 1) := by decide +kernel
theorem dX1_start_29 : decode cX1_start 29 = .ok (.invokestatic 82, 3) := by decide +kernel
theorem dX1_start_32 : decode cX1_start 32 = .ok (.aload_n 0, 1) := by decide +kernel
theorem dX1_start_33 : decode cX1_start 33 = .ok (.getfield 33, 3) := by decide +kernel
theorem dX1_start_36 : decode cX1_start 36 = .ok (.iconst 0, 1) := by decide +kernel
theorem dX1_start_37 : decode cX1_start 37 = .ok (.invokestatic 82, 3) := by decide +kernel
theorem dX1_start_40 : decode cX1_start 40 = .ok (.iconst 0, 1) := by decide +kernel
theorem dX1_start_41 : decode cX1_start 41 = .ok (.istore_n 1, 1) := by decide +kernel
theorem dX1_start_42 : decode cX1_start 42 = .ok (.iload_n 1, 1) := by decide +kernel
theorem dX1_start_43 : decode cX1_start 43 = .ok (.aload_n 0, 1) := by decide +kernel
theorem dX1_start_44 : decode cX1_start 44 = .ok (.getfield 51, 3) := by decide +kernel
theorem dX1_start_47 : decode cX1_start 47 = .ok (.if_icmp .ge 29, 3) := by decide +kernel
theorem dX1_start_50 : decode cX1_start 50 = .ok (.aload_n 0, 1) := by decide +kernel
theorem dX1_start_51 : decode cX1_start 51 = .ok (.getfield 30, 3) := by decide +kernel
theorem dX1_start_54 : decode cX1_start 54 = .ok (.aload_n 0, 1) := by decide +kernel
theorem dX1_start_55 : decode cX1_start 55 = .ok (.getfield 39, 3) := by decide +kernel
theorem dX1_start_58 : decode cX1_start 58 = .ok (.getfield 85, 3) := by decide +kernel
theorem dX1_start_61 : decode cX1_start 61 = .ok (.iload_n 1, 1) := by decide +kernel
theorem dX1_start_62 : decode cX1_start 62 = .ok (.iaload, 1) := by decide +kernel
theorem dX1_start_63 : decode cX1_start 63 = .ok (.dup2, 1) := by decide +kernel
theorem dX1_start_64 : decode cX1_start 64 = .ok (.iaload, 1) := by decide +kernel
theorem dX1_start_65 : decode cX1_start 65 = .ok (.iconst 1, 1) := by decide +kernel
theorem dX1_start_66 : decode cX1_start 66 = .ok (.iload_n 1, 1) := by decide +kernel
theorem dX1_start_67 : decode cX1_start 67 = .ok (.ishl, 1) := by decide +kernel
theorem dX1_start_68 : decode cX1_start 68 = .ok (.ior, 1) := by decide +kernel
theorem dX1_start_69 : decode cX1_start 69 = .ok (.iastore, 1) := by decide +kernel
theorem dX1_start_70 : decode cX1_start 70 = .ok (.iinc 1 1, 3) := by decide +kernel
theorem dX1_start_73 : decode cX1_start 73 = .ok (.goto (-31), 3) := by decide +kernel
theorem dX1_start_76 : decode cX1_start 76 = .ok (.aload_n 0, 1) := by decide +kernel
theorem dX1_start_77 : decode cX1_start 77 = .ok (.iconst 1, 1) := by decide +kernel
theorem dX1_start_78 : decode cX1_start 78 = .ok (.aload_n 0, 1) := by decide +kernel
theorem dX1_start_79 : decode cX1_start 79 = .ok (.getfield 51, 3) := by decide +kernel
theorem dX1_start_82 : decode cX1_start 82 = .ok (.ishl, 1) := by decide +kernel
theorem dX1_start_83 : decode cX1_start 83 = .ok (.iconst 1, 1) := by decide +kernel
theorem dX1_start_84 : decode cX1_start 84 = .ok (.isub, 1) := by decide +kernel
theorem dX1_start_85 : decode cX1_start 85 = .ok (.putfield 90, 3) := by decide +kernel
theorem dX1_start_88 : decode cX1_start 88 = .ok (.return_, 1) := by decide +kernel
theorem dX1_advance_0 : decode cX1_advance 0 = .ok (.iconst 0, 1) := by decide +kernel
theorem dX1_advance_1 : decode cX1_advance 1 = .ok (.istore_n 3, 1) := by decide +kernel
theorem dX1_advance_2 : decode cX1_advance 2 = .ok (.iconst 0, 1) := by decide +kernel
theorem dX1_advance_3 : decode cX1_advance 3 = .ok (.istore 4, 2) := by decide +kernel
theorem dX1_advance_5 : decode cX1_advance 5 = .ok (.iload 4, 2) := by decide +kernel
theorem dX1_advance_7 : decode cX1_advance 7 = .ok (.aload_n 0, 1) := by decide +kernel
theorem dX1_advance_8 : decode cX1_advance 8 = .ok (.getfield 51, 3) := by decide +kernel
theorem dX1_advance_11 : decode cX1_advance 11 = .ok (.if_icmp .ge 135, 3) := by decide +kernel
theorem dX1_advance_14 : decode cX1_advance 14 = .ok (.iload 4, 2) := by decide +kernel
theorem dX1_advance_16 : decode cX1_advance 16 = .ok (.aload_n 0, 1) := by decide +kernel
theorem dX1_advance_17 : decode cX1_advance 17 = .ok (.getfield 58, 3) := by decide +kernel
theorem dX1_advance_20 : decode cX1_advance 20 = .ok (.if_icmp .ne 14, 3) := by decide +kernel
theorem dX1_advance_23 : decode cX1_advance 23 = .ok (.iload_n 1, 1) := by decide +kernel
theorem dX1_advance_24 : decode cX1_advance 24 = .ok (.aload_n 0, 1) := by decide +kernel
theorem dX1_advance_25 : decode cX1_advance 25 = .ok (.getfield 61, 3) := by decide +kernel
theorem dX1_advance_28 : decode cX1_advance 28 = .ok (.if_icmp .lt 6, 3) := by decide +kernel
theorem dX1_advance_31 : decode cX1_advance 31 = .ok (.goto 109, 3) := by decide +kernel
theorem dX1_advance_34 : decode cX1_advance 34 = .ok (.aload_n 0, 1) := by decide +kernel
theorem dX1_advance_35 : decode cX1_advance 35 = .ok (.getfield 20, 3) := by decide +kernel
theorem dX1_advance_38 : decode cX1_advance 38 = .ok (.iload 4, 2) := by decide +kernel
theorem dX1_advance_40 : decode cX1_advance 40 = .ok (.iaload, 1) := by decide +kernel
theorem dX1_advance_41 : decode cX1_advance 41 = .ok (.ifCond .ne 57, 3) := by decide +kernel
theorem dX1_advance_44 : decode cX1_advance 44 = .ok (.aload_n 0, 1) := by decide +kernel
theorem dX1_advance_45 : decode cX1_advance 45 = .ok (.iload 4, 2) := by decide +kernel
theorem dX1_advance_47 : decode cX1_advance 47 = .ok (.iload_n 1, 1) := by decide +kernel
theorem dX1_advance_48 : decode cX1_advance 48 = .ok (.iload_n 2, 1) := by decide +kernel
theorem dX1_advance_49 : decode cX1_advance 49 = .ok (.invokevirtual 93, 3) := by decide +kernel
theorem dX1_advance_52 : decode cX1_advance 52 = .ok (.ifCond .eq 46, 3) := by decide +kernel
theorem dX1_advance_55 : decode cX1_advance 55 = .ok (.aload_n 0, 1) := by decide +kernel
theorem dX1_advance_56 : decode cX1_advance 56 = .ok (.getfield 20, 3) := by decide +kernel
theorem dX1_advance_59 : decode cX1_advance 59 = .ok (.iload 4, 2) := by decide +kernel
theorem dX1_advance_61 : decode cX1_advance 61 = .ok (.aload_n 0, 1) := by decide +kernel
theorem dX1_advance_62 : decode cX1_advance 62 = .ok (.getfield 43, 3) := by decide +kernel
theorem dX1_advance_65 : decode cX1_advance 65 = .ok (.iload 4, 2) := by decide +kernel
theorem dX1_advance_67 : decode cX1_advance 67 = .ok (.aaload, 1) := by decide +kernel
theorem dX1_advance_68 : decode cX1_advance 68 = .ok (.aload_n 0, 1) := by decide +kernel
theorem dX1_advance_69 : decode cX1_advance 69 = .ok (.getfield 23, 3) := by decide +kernel
theorem dX1_advance_72 : decode cX1_advance 72 = .ok (.iload 4, 2) := by decide +kernel
theorem dX1_advance_74 : decode cX1_advance 74 = .ok (.iaload, 1) := by decide +kernel
theorem dX1_advance_75 : decode cX1_advance 75 = .ok (.invokevirtual 97, 3) := by decide +kernel
theorem dX1_advance_78 : decode cX1_advance 78 = .ok (.iastore, 1) := by decide +kernel
theorem dX1_advance_79 : decode cX1_advance 79 = .ok (.aload_n 0, 1) := by decide +kernel
theorem dX1_advance_80 : decode cX1_advance 80 = .ok (.getfield 23, 3) := by decide +kernel
theorem dX1_advance_83 : decode cX1_advance 83 = .ok (.iload 4, 2) := by decide +kernel
theorem dX1_advance_85 : decode cX1_advance 85 = .ok (.dup2, 1) := by decide +kernel
theorem dX1_advance_86 : decode cX1_advance 86 = .ok (.iaload, 1) := by decide +kernel
theorem dX1_advance_87 : decode cX1_advance 87 = .ok (.iconst 1, 1) := by decide +kernel
theorem dX1_advance_88 : decode cX1_advance 88 = .ok (.iadd, 1) := by decide +kernel
theorem dX1_advance_89 : decode cX1_advance 89 = .ok (.iastore, 1) := by decide +kernel
theorem dX1_advance_90 : decode cX1_advance 90 = .ok (.aload_n 0, 1) := by decide +kernel
theorem dX1_advance_91 : decode cX1_advance 91 = .ok (.getfield 17, 3) := by decide +kernel
theorem dX1_advance_94 : decode cX1_advance 94 = .ok (.iload 4, 2) := by decide +kernel
theorem dX1_advance_96 : decode cX1_advance 96 = .ok (.iconst 0, 1) := by decide +kernel
theorem dX1_advance_97 : decode cX1_advance 97 = .ok (.iastore, 1) := by decide +kernel
theorem dX1_advance_98 : decode cX1_advance 98 = .ok (.aload_n 0, 1) := by decide +kernel
theorem dX1_advance_99 : decode cX1_advance 99 = .ok (.getfield 20, 3) := by decide +kernel
theorem dX1_advance_102 : decode cX1_advance 102 = .ok (.iload 4, 2) := by decide +kernel
theorem dX1_advance_104 : decode cX1_advance 104 = .ok (.iaload, 1) := by decide +kernel
theorem dX1_advance_105 : decode cX1_advance 105 = .ok (.ifCond .le 17, 3) := by decide +kernel
theorem dX1_advance_108 : decode cX1_advance 108 = .ok (.aload_n 0, 1) := by decide +kernel
theorem dX1_advance_109 : decode cX1_advance 109 = .ok (.getfield 20, 3) := by decide +kernel
theorem dX1_advance_112 : decode cX1_advance 112 = .ok (.iload 4, 2) := by decide +kernel
theorem dX1_advance_114 : decode cX1_advance 114 = .ok (.dup2, 1) := by decide +kernel
theorem dX1_advance_115 : decode cX1_advance 115 = .ok (.iaload, 1) := by decide +kernel
theorem dX1_advance_116 : decode cX1_advance 116 = .ok (.iconst 1, 1) := by decide +kernel
theorem dX1_advance_117 : decode cX1_advance 117 = .ok (.isub, 1) := by decide +kernel
theorem dX1_advance_118 : decode cX1_advance 118 = .ok (.iastore, 1) := by decide +kernel
theorem dX1_advance_119 : decode cX1_advance 119 = .ok (.goto 21, 3) := by decide +kernel
theorem dX1_advance_122 : decode cX1_advance 122 = .ok (.aload_n 0, 1) := by decide +kernel
theorem dX1_advance_123 : decode cX1_advance 123 = .ok (.getfield 17, 3) := by decide +kernel
theorem dX1_advance_126 : decode cX1_advance 126 = .ok (.iload 4, 2) := by decide +kernel
theorem dX1_advance_128 : decode cX1_advance 128 = .ok (.dup2, 1) := by decide +kernel
theorem dX1_advance_129 : decode cX1_advance 129 = .ok (.iaload, 1) := by decide +kernel
theorem dX1_advance_130 : decode cX1_advance 130 = .ok (.iconst 1, 1) := by decide +kernel
theorem dX1_advance_131 : decode cX1_advance 131 = .ok (.iadd, 1) := by decide +kernel
theorem dX1_advance_132 : decode cX1_advance 132 = .ok (.iastore, 1) := by decide +kernel
theorem dX1_advance_133 : decode cX1_advance 133 = .ok (.iload_n 3, 1) := by decide +kernel
theorem dX1_advance_134 : decode cX1_advance 134 = .ok (.iconst 1, 1) := by decide +kernel
theorem dX1_advance_135 : decode cX1_advance 135 = .ok (.iload 4, 2) := by decide +kernel
theorem dX1_advance_137 : decode cX1_advance 137 = .ok (.ishl, 1) := by decide +kernel
theorem dX1_advance_138 : decode cX1_advance 138 = .ok (.ior, 1) := by decide +kernel
theorem dX1_advance_139 : decode cX1_advance 139 = .ok (.istore_n 3, 1) := by decide +kernel
theorem dX1_advance_140 : decode cX1_advance 140 = .ok (.iinc 4 1, 3) := by decide +kernel
theorem dX1_advance_143 : decode cX1_advance 143 = .ok (.goto (-138), 3) := by decide +kernel
theorem dX1_advance_146 : decode cX1_advance 146 = .ok (.aload_n 0, 1) := by decide +kernel
theorem dX1_advance_147 : decode cX1_advance 147 = .ok (.iload_n 3, 1) := by decide +kernel
theorem dX1_advance_148 : decode cX1_advance 148 = .ok (.putfield 90, 3) := by decide +kernel
theorem dX1_advance_151 : decode cX1_advance 151 = .ok (.iconst 0, 1) := by decide +kernel
theorem dX1_advance_152 : decode cX1_advance 152 = .ok (.istore 4, 2) := by decide +kernel
theorem dX1_advance_154 : decode cX1_advance 154 = .ok (.iload 4, 2) := by decide +kernel
theorem dX1_advance_156 : decode cX1_advance 156 = .ok (.iconst 4, 1) := by decide +kernel
theorem dX1_advance_157 : decode cX1_advance 157 = .ok (.if_icmp .ge 48, 3) := by decide +kernel
theorem dX1_advance_160 : decode cX1_advance 160 = .ok (.aload_n 0, 1) := by decide +kernel
theorem dX1_advance_161 : decode cX1_advance 161 = .ok (.getfield 33, 3) := by decide +kernel
theorem dX1_advance_164 : decode cX1_advance 164 = .ok (.iload 4, 2) := by decide +kernel
theorem dX1_advance_166 : decode cX1_advance 166 = .ok (.aload_n 0, 1) := by decide +kernel
theorem dX1_advance_167 : decode cX1_advance 167 = .ok (.iload 4, 2) := by decide +kernel
theorem dX1_advance_169 : decode cX1_advance 169 = .ok (.invokevirtual 103, 3) := by decide +kernel
theorem dX1_advance_172 : decode cX1_advance 172 = .ok (.aload_n 0, 1) := by decide +kernel
theorem dX1_advance_173 : decode cX1_advance 173 = .ok (.getfield 39, 3) := by decide +kernel
theorem dX1_advance_176 : decode cX1_advance 176 = .ok (.getfield 106, 3) := by decide +kernel
theorem dX1_advance_179 : decode cX1_advance 179 = .ok (.iload 4, 2) := by decide +kernel
theorem dX1_advance_181 : decode cX1_advance 181 = .ok (.iaload, 1) := by decide +kernel
theorem dX1_advance_182 : decode cX1_advance 182 = .ok (.if_icmp .ge 15, 3) := by decide +kernel
theorem dX1_advance_185 : decode cX1_advance 185 = .ok (.aload_n 0, 1) := by decide +kernel
theorem dX1_advance_186 : decode cX1_advance 186 = .ok (.getfield 33, 3) := by decide +kernel
theorem dX1_advance_189 : decode cX1_advance 189 = .ok (.iload 4, 2) := by decide +kernel
theorem dX1_advance_191 : decode cX1_advance 191 = .ok (.iaload, 1) := by decide +kernel
theorem dX1_advance_192 : decode cX1_advance 192 = .ok (.iconst 1, 1) := by decide +kernel
theorem dX1_advance_193 : decode cX1_advance 193 = .ok (.iadd, 1) := by decide +kernel
theorem dX1_advance_194 : decode cX1_advance 194 = .ok (.goto 4, 3) := by decide +kernel
theorem dX1_advance_197 : decode cX1_advance 197 = .ok (.iconst 0, 1) := by decide +kernel
theorem dX1_advance_198 : decode cX1_advance 198 = .ok (.iastore, 1) := by decide +kernel
theorem dX1_advance_199 : decode cX1_advance 199 = .ok (.iinc 4 1, 3) := by decide +kernel
theorem dX1_advance_202 : decode cX1_advance 202 = .ok (.goto (-48), 3) := by decide +kernel
theorem dX1_advance_205 : decode cX1_advance 205 = .ok (.return_, 1) := by decide +kernel
theorem dX1_begins_0 : decode cX1_begins 0 = .ok (.aload_n 0, 1) := by decide +kernel
theorem dX1_begins_1 : decode cX1_begins 1 = .ok (.getfield 47, 3) := by decide +kernel
theorem dX1_begins_4 : decode cX1_begins 4 = .ok (.iconst 1, 1) := by decide +kernel
theorem dX1_begins_5 : decode cX1_begins 5 = .ok (.if_icmp .ne 28, 3) := by decide +kernel
theorem dX1_begins_8 : decode cX1_begins 8 = .ok (.iload_n 2, 1) := by decide +kernel
theorem dX1_begins_9 : decode cX1_begins 9 = .ok (.bipush 48, 2) := by decide +kernel
theorem dX1_begins_11 : decode cX1_begins 11 = .ok (.if_icmp .ge 20, 3) := by decide +kernel
theorem dX1_begins_14 : decode cX1_begins 14 = .ok (.aload_n 0, 1) := by decide +kernel
theorem dX1_begins_15 : decode cX1_begins 15 = .ok (.getfield 39, 3) := by decide +kernel
theorem dX1_begins_18 : decode cX1_begins 18 = .ok (.getfield 109, 3) := by decide +kernel
theorem dX1_begins_21 : decode cX1_begins 21 = .ok (.iload_n 2, 1) := by decide +kernel
theorem dX1_begins_22 : decode cX1_begins 22 = .ok (.iaload, 1) := by decide +kernel
theorem dX1_begins_23 : decode cX1_begins 23 = .ok (.iconst 1, 1) := by decide +kernel
theorem dX1_begins_24 : decode cX1_begins 24 = .ok (.if_icmp .ne 7, 3) := by decide +kernel
theorem dX1_begins_27 : decode cX1_begins 27 = .ok (.iconst 1, 1) := by decide +kernel
theorem dX1_begins_28 : decode cX1_begins 28 = .ok (.goto 4, 3) := by decide +kernel
theorem dX1_begins_31 : decode cX1_begins 31 = .ok (.iconst 0, 1) := by decide +kernel
theorem dX1_begins_32 : decode cX1_begins 32 = .ok (.ireturn, 1) := by decide +kernel
theorem dX1_begins_33 : decode cX1_begins 33 = .ok (.aload_n 0, 1) := by decide +kernel
theorem dX1_begins_34 : decode cX1_begins 34 = .ok (.getfield 47, 3) := by decide +kernel
theorem dX1_begins_37 : decode cX1_begins 37 = .ok (.invokestatic 112, 3) := by decide +kernel
theorem dX1_begins_40 : decode cX1_begins 40 = .ok (.ifCond .eq 32, 3) := by decide +kernel
theorem dX1_begins_43 : decode cX1_begins 43 = .ok (.iload_n 2, 1) := by decide +kernel
theorem dX1_begins_44 : decode cX1_begins 44 = .ok (.bipush 48, 2) := by decide +kernel
theorem dX1_begins_46 : decode cX1_begins 46 = .ok (.if_icmp .ge 24, 3) := by decide +kernel
theorem dX1_begins_49 : decode cX1_begins 49 = .ok (.aload_n 0, 1) := by decide +kernel
theorem dX1_begins_50 : decode cX1_begins 50 = .ok (.getfield 26, 3) := by decide +kernel
theorem dX1_begins_53 : decode cX1_begins 53 = .ok (.iload_n 1, 1) := by decide +kernel
theorem dX1_begins_54 : decode cX1_begins 54 = .ok (.laload, 1) := by decide +kernel
theorem dX1_begins_55 : decode cX1_begins 55 = .ok (.iload_n 2, 1) := by decide +kernel
theorem dX1_begins_56 : decode cX1_begins 56 = .ok (.lshr, 1) := by decide +kernel
theorem dX1_begins_57 : decode cX1_begins 57 = .ok (.ldc2_w 116, 3) := by decide +kernel
theorem dX1_begins_60 : decode cX1_begins 60 = .ok (.lrem, 1) := by decide +kernel
theorem dX1_begins_61 : decode cX1_begins 61 = .ok (.lconst 1, 1) := by decide +kernel
theorem dX1_begins_62 : decode cX1_begins 62 = .ok (.lcmp, 1) := by decide +kernel
theorem dX1_begins_63 : decode cX1_begins 63 = .ok (.ifCond .ne 7, 3) := by decide +kernel
theorem dX1_begins_66 : decode cX1_begins 66 = .ok (.iconst 1, 1) := by decide +kernel
theorem dX1_begins_67 : decode cX1_begins 67 = .ok (.goto 4, 3) := by decide +kernel
theorem dX1_begins_70 : decode cX1_begins 70 = .ok (.iconst 0, 1) := by decide +kernel
theorem dX1_begins_71 : decode cX1_begins 71 = .ok (.ireturn, 1) := by decide +kernel
theorem dX1_begins_72 : decode cX1_begins 72 = .ok (.aload_n 0, 1) := by decide +kernel
theorem dX1_begins_73 : decode cX1_begins 73 = .ok (.getfield 17, 3) := by decide +kernel
theorem dX1_begins_76 : decode cX1_begins 76 = .ok (.iload_n 1, 1) := by decide +kernel
theorem dX1_begins_77 : decode cX1_begins 77 = .ok (.iaload, 1) := by decide +kernel
theorem dX1_begins_78 : decode cX1_begins 78 = .ok (.aload_n 0, 1) := by decide +kernel
theorem dX1_begins_79 : decode cX1_begins 79 = .ok (.getfield 43, 3) := by decide +kernel
theorem dX1_begins_82 : decode cX1_begins 82 = .ok (.iload_n 1, 1) := by decide +kernel
theorem dX1_begins_83 : decode cX1_begins 83 = .ok (.aaload, 1) := by decide +kernel
theorem dX1_begins_84 : decode cX1_begins 84 = .ok (.iload_n 3, 1) := by decide +kernel
theorem dX1_begins_85 : decode cX1_begins 85 = .ok (.aload_n 0, 1) := by decide +kernel
theorem dX1_begins_86 : decode cX1_begins 86 = .ok (.getfield 23, 3) := by decide +kernel
theorem dX1_begins_89 : decode cX1_begins 89 = .ok (.iload_n 1, 1) := by decide +kernel
theorem dX1_begins_90 : decode cX1_begins 90 = .ok (.iaload, 1) := by decide +kernel
theorem dX1_begins_91 : decode cX1_begins 91 = .ok (.invokevirtual 118, 3) := by decide +kernel
theorem dX1_begins_94 : decode cX1_begins 94 = .ok (.if_icmp .ge 20, 3) := by decide +kernel
theorem dX1_begins_97 : decode cX1_begins 97 = .ok (.aload_n 0, 1) := by decide +kernel
theorem dX1_begins_98 : decode cX1_begins 98 = .ok (.getfield 47, 3) := by decide +kernel
theorem dX1_begins_101 : decode cX1_begins 101 = .ok (.ifCond .ne 17, 3) := by decide +kernel
theorem dX1_begins_104 : decode cX1_begins 104 = .ok (.aload_n 0, 1) := by decide +kernel
theorem dX1_begins_105 : decode cX1_begins 105 = .ok (.iload_n 1, 1) := by decide +kernel
theorem dX1_begins_106 : decode cX1_begins 106 = .ok (.iload_n 2, 1) := by decide +kernel
theorem dX1_begins_107 : decode cX1_begins 107 = .ok (.iload_n 3, 1) := by decide +kernel
theorem dX1_begins_108 : decode cX1_begins 108 = .ok (.invokevirtual 122, 3) := by decide +kernel
theorem dX1_begins_111 : decode cX1_begins 111 = .ok (.ifCond .eq 7, 3) := by decide +kernel
theorem dX1_begins_114 : decode cX1_begins 114 = .ok (.iconst 1, 1) := by decide +kernel
theorem dX1_begins_115 : decode cX1_begins 115 = .ok (.goto 4, 3) := by decide +kernel
theorem dX1_begins_118 : decode cX1_begins 118 = .ok (.iconst 0, 1) := by decide +kernel
theorem dX1_begins_119 : decode cX1_begins 119 = .ok (.ireturn, 1) := by decide +kernel
theorem dX1_ruleTells_0 : decode cX1_ruleTells 0 = .ok (.aload_n 0, 1) := by decide +kernel
theorem dX1_ruleTells_1 : decode cX1_ruleTells 1 = .ok (.getfield 39, 3) := by decide +kernel
theorem dX1_ruleTells_4 : decode cX1_ruleTells 4 = .ok (.getfield 85, 3) := by decide +kernel
theorem dX1_ruleTells_7 : decode cX1_ruleTells 7 = .ok (.iload_n 1, 1) := by decide +kernel
theorem dX1_ruleTells_8 : decode cX1_ruleTells 8 = .ok (.iaload, 1) := by decide +kernel
theorem dX1_ruleTells_9 : decode cX1_ruleTells 9 = .ok (.istore 4, 2) := by decide +kernel
theorem dX1_ruleTells_11 : decode cX1_ruleTells 11 = .ok (.aload_n 0, 1) := by decide +kernel
theorem dX1_ruleTells_12 : decode cX1_ruleTells 12 = .ok (.getfield 90, 3) := by decide +kernel
theorem dX1_ruleTells_15 : decode cX1_ruleTells 15 = .ok (.aload_n 0, 1) := by decide +kernel
theorem dX1_ruleTells_16 : decode cX1_ruleTells 16 = .ok (.getfield 30, 3) := by decide +kernel
theorem dX1_ruleTells_19 : decode cX1_ruleTells 19 = .ok (.iload 4, 2) := by decide +kernel
theorem dX1_ruleTells_21 : decode cX1_ruleTells 21 = .ok (.iaload, 1) := by decide +kernel
theorem dX1_ruleTells_22 : decode cX1_ruleTells 22 = .ok (.iand, 1) := by decide +kernel
theorem dX1_ruleTells_23 : decode cX1_ruleTells 23 = .ok (.iconst 1, 1) := by decide +kernel
theorem dX1_ruleTells_24 : decode cX1_ruleTells 24 = .ok (.iload_n 1, 1) := by decide +kernel
theorem dX1_ruleTells_25 : decode cX1_ruleTells 25 = .ok (.ishl, 1) := by decide +kernel
theorem dX1_ruleTells_26 : decode cX1_ruleTells 26 = .ok (.iconst (-1), 1) := by decide +kernel
theorem dX1_ruleTells_27 : decode cX1_ruleTells 27 = .ok (.ixor, 1) := by decide +kernel
theorem dX1_ruleTells_28 : decode cX1_ruleTells 28 = .ok (.iand, 1) := by decide +kernel
theorem dX1_ruleTells_29 : decode cX1_ruleTells 29 = .ok (.invokestatic 125, 3) := by decide +kernel
theorem dX1_ruleTells_32 : decode cX1_ruleTells 32 = .ok (.istore 5, 2) := by decide +kernel
theorem dX1_ruleTells_34 : decode cX1_ruleTells 34 = .ok (.aload_n 0, 1) := by decide +kernel
theorem dX1_ruleTells_35 : decode cX1_ruleTells 35 = .ok (.iload_n 1, 1) := by decide +kernel
theorem dX1_ruleTells_36 : decode cX1_ruleTells 36 = .ok (.iconst 1, 1) := by decide +kernel
theorem dX1_ruleTells_37 : decode cX1_ruleTells 37 = .ok (.isub, 1) := by decide +kernel
theorem dX1_ruleTells_38 : decode cX1_ruleTells 38 = .ok (.invokevirtual 130, 3) := by decide +kernel
theorem dX1_ruleTells_41 : decode cX1_ruleTells 41 = .ok (.invokestatic 133, 3) := by decide +kernel
theorem dX1_ruleTells_44 : decode cX1_ruleTells 44 = .ok (.aload_n 0, 1) := by decide +kernel
theorem dX1_ruleTells_45 : decode cX1_ruleTells 45 = .ok (.iload_n 1, 1) := by decide +kernel
theorem dX1_ruleTells_46 : decode cX1_ruleTells 46 = .ok (.iconst 1, 1) := by decide +kernel
theorem dX1_ruleTells_47 : decode cX1_ruleTells 47 = .ok (.iadd, 1) := by decide +kernel
theorem dX1_ruleTells_48 : decode cX1_ruleTells 48 = .ok (.invokevirtual 130, 3) := by decide +kernel
theorem dX1_ruleTells_51 : decode cX1_ruleTells 51 = .ok (.invokestatic 133, 3) := by decide +kernel
theorem dX1_ruleTells_54 : decode cX1_ruleTells 54 = .ok (.iadd, 1) := by decide +kernel
theorem dX1_ruleTells_55 : decode cX1_ruleTells 55 = .ok (.istore 6, 2) := by decide +kernel
theorem dX1_ruleTells_57 : decode cX1_ruleTells 57 = .ok (.aload_n 0, 1) := by decide +kernel
theorem dX1_ruleTells_58 : decode cX1_ruleTells 58 = .ok (.iload_n 2, 1) := by decide +kernel
theorem dX1_ruleTells_59 : decode cX1_ruleTells 59 = .ok (.iload_n 3, 1) := by decide +kernel
theorem dX1_ruleTells_60 : decode cX1_ruleTells 60 = .ok (.invokevirtual 137, 3) := by decide +kernel
theorem dX1_ruleTells_63 : decode cX1_ruleTells 63 = .ok (.aload_n 0, 1) := by decide +kernel
theorem dX1_ruleTells_64 : decode cX1_ruleTells 64 = .ok (.getfield 11, 3) := by decide +kernel
theorem dX1_ruleTells_67 : decode cX1_ruleTells 67 = .ok (.iconst 0, 1) := by decide +kernel
theorem dX1_ruleTells_68 : decode cX1_ruleTells 68 = .ok (.aload_n 0, 1) := by decide +kernel
theorem dX1_ruleTells_69 : decode cX1_ruleTells 69 = .ok (.getfield 17, 3) := by decide +kernel
theorem dX1_ruleTells_72 : decode cX1_ruleTells 72 = .ok (.iload_n 1, 1) := by decide +kernel
theorem dX1_ruleTells_73 : decode cX1_ruleTells 73 = .ok (.iaload, 1) := by decide +kernel
theorem dX1_ruleTells_74 : decode cX1_ruleTells 74 = .ok (.iastore, 1) := by decide +kernel
theorem dX1_ruleTells_75 : decode cX1_ruleTells 75 = .ok (.aload_n 0, 1) := by decide +kernel
theorem dX1_ruleTells_76 : decode cX1_ruleTells 76 = .ok (.getfield 11, 3) := by decide +kernel
theorem dX1_ruleTells_79 : decode cX1_ruleTells 79 = .ok (.iconst 3, 1) := by decide +kernel
theorem dX1_ruleTells_80 : decode cX1_ruleTells 80 = .ok (.iload 5, 2) := by decide +kernel
theorem dX1_ruleTells_82 : decode cX1_ruleTells 82 = .ok (.iastore, 1) := by decide +kernel
theorem dX1_ruleTells_83 : decode cX1_ruleTells 83 = .ok (.aload_n 0, 1) := by decide +kernel
theorem dX1_ruleTells_84 : decode cX1_ruleTells 84 = .ok (.getfield 11, 3) := by decide +kernel
theorem dX1_ruleTells_87 : decode cX1_ruleTells 87 = .ok (.iconst 4, 1) := by decide +kernel
theorem dX1_ruleTells_88 : decode cX1_ruleTells 88 = .ok (.iload 6, 2) := by decide +kernel
theorem dX1_ruleTells_90 : decode cX1_ruleTells 90 = .ok (.iastore, 1) := by decide +kernel
theorem dX1_ruleTells_91 : decode cX1_ruleTells 91 = .ok (.aload_n 0, 1) := by decide +kernel
theorem dX1_ruleTells_92 : decode cX1_ruleTells 92 = .ok (.getfield 11, 3) := by decide +kernel
theorem dX1_ruleTells_95 : decode cX1_ruleTells 95 = .ok (.iconst 5, 1) := by decide +kernel
theorem dX1_ruleTells_96 : decode cX1_ruleTells 96 = .ok (.aload_n 0, 1) := by decide +kernel
theorem dX1_ruleTells_97 : decode cX1_ruleTells 97 = .ok (.getfield 23, 3) := by decide +kernel
theorem dX1_ruleTells_100 : decode cX1_ruleTells 100 = .ok (.iload_n 1, 1) := by decide +kernel
theorem dX1_ruleTells_101 : decode cX1_ruleTells 101 = .ok (.iaload, 1) := by decide +kernel
theorem dX1_ruleTells_102 : decode cX1_ruleTells 102 = .ok (.iastore, 1) := by decide +kernel
theorem dX1_ruleTells_103 : decode cX1_ruleTells 103 = .ok (.aload_n 0, 1) := by decide +kernel
theorem dX1_ruleTells_104 : decode cX1_ruleTells 104 = .ok (.getfield 54, 3) := by decide +kernel
theorem dX1_ruleTells_107 : decode cX1_ruleTells 107 = .ok (.iconst 0, 1) := by decide +kernel
theorem dX1_ruleTells_108 : decode cX1_ruleTells 108 = .ok (.aload_n 0, 1) := by decide +kernel
theorem dX1_ruleTells_109 : decode cX1_ruleTells 109 = .ok (.getfield 11, 3) := by decide +kernel
theorem dX1_ruleTells_112 : decode cX1_ruleTells 112 = .ok (.invokevirtual 143, 3) := by decide +kernel
theorem dX1_ruleTells_115 : decode cX1_ruleTells 115 = .ok (.ifCond .ne 38, 3) := by decide +kernel
theorem dX1_ruleTells_118 : decode cX1_ruleTells 118 = .ok (.iload 5, 2) := by decide +kernel
theorem dX1_ruleTells_120 : decode cX1_ruleTells 120 = .ok (.aload_n 0, 1) := by decide +kernel
theorem dX1_ruleTells_121 : decode cX1_ruleTells 121 = .ok (.getfield 39, 3) := by decide +kernel
theorem dX1_ruleTells_124 : decode cX1_ruleTells 124 = .ok (.getfield 106, 3) := by decide +kernel
theorem dX1_ruleTells_127 : decode cX1_ruleTells 127 = .ok (.iload 4, 2) := by decide +kernel
theorem dX1_ruleTells_129 : decode cX1_ruleTells 129 = .ok (.iaload, 1) := by decide +kernel
theorem dX1_ruleTells_130 : decode cX1_ruleTells 130 = .ok (.if_icmp .lt 27, 3) := by decide +kernel
theorem dX1_ruleTells_133 : decode cX1_ruleTells 133 = .ok (.iload 6, 2) := by decide +kernel
theorem dX1_ruleTells_135 : decode cX1_ruleTells 135 = .ok (.ifCond .ne 22, 3) := by decide +kernel
theorem dX1_ruleTells_138 : decode cX1_ruleTells 138 = .ok (.aload_n 0, 1) := by decide +kernel
theorem dX1_ruleTells_139 : decode cX1_ruleTells 139 = .ok (.getfield 54, 3) := by decide +kernel
theorem dX1_ruleTells_142 : decode cX1_ruleTells 142 = .ok (.iconst 1, 1) := by decide +kernel
theorem dX1_ruleTells_143 : decode cX1_ruleTells 143 = .ok (.aload_n 0, 1) := by decide +kernel
theorem dX1_ruleTells_144 : decode cX1_ruleTells 144 = .ok (.getfield 11, 3) := by decide +kernel
theorem dX1_ruleTells_147 : decode cX1_ruleTells 147 = .ok (.invokevirtual 143, 3) := by decide +kernel
theorem dX1_ruleTells_150 : decode cX1_ruleTells 150 = .ok (.ifCond .eq 7, 3) := by decide +kernel
theorem dX1_ruleTells_153 : decode cX1_ruleTells 153 = .ok (.iconst 1, 1) := by decide +kernel
theorem dX1_ruleTells_154 : decode cX1_ruleTells 154 = .ok (.goto 4, 3) := by decide +kernel
theorem dX1_ruleTells_157 : decode cX1_ruleTells 157 = .ok (.iconst 0, 1) := by decide +kernel
theorem dX1_ruleTells_158 : decode cX1_ruleTells 158 = .ok (.ireturn, 1) := by decide +kernel
theorem dX1_isSilent_0 : decode cX1_isSilent 0 = .ok (.iload_n 1, 1) := by decide +kernel
theorem dX1_isSilent_1 : decode cX1_isSilent 1 = .ok (.aload_n 0, 1) := by decide +kernel
theorem dX1_isSilent_2 : decode cX1_isSilent 2 = .ok (.getfield 51, 3) := by decide +kernel
theorem dX1_isSilent_5 : decode cX1_isSilent 5 = .ok (.invokestatic 78, 3) := by decide +kernel
theorem dX1_isSilent_8 : decode cX1_isSilent 8 = .ok (.ifCond .ne 18, 3) := by decide +kernel
theorem dX1_isSilent_11 : decode cX1_isSilent 11 = .ok (.aload_n 0, 1) := by decide +kernel
theorem dX1_isSilent_12 : decode cX1_isSilent 12 = .ok (.getfield 90, 3) := by decide +kernel
theorem dX1_isSilent_15 : decode cX1_isSilent 15 = .ok (.iload_n 1, 1) := by decide +kernel
theorem dX1_isSilent_16 : decode cX1_isSilent 16 = .ok (.ishr, 1) := by decide +kernel
theorem dX1_isSilent_17 : decode cX1_isSilent 17 = .ok (.iconst 2, 1) := by decide +kernel
theorem dX1_isSilent_18 : decode cX1_isSilent 18 = .ok (.irem, 1) := by decide +kernel
theorem dX1_isSilent_19 : decode cX1_isSilent 19 = .ok (.ifCond .ne 7, 3) := by decide +kernel
theorem dX1_isSilent_22 : decode cX1_isSilent 22 = .ok (.iconst 1, 1) := by decide +kernel
theorem dX1_isSilent_23 : decode cX1_isSilent 23 = .ok (.goto 4, 3) := by decide +kernel
theorem dX1_isSilent_26 : decode cX1_isSilent 26 = .ok (.iconst 0, 1) := by decide +kernel
theorem dX1_isSilent_27 : decode cX1_isSilent 27 = .ok (.ireturn, 1) := by decide +kernel
theorem dX1_listen_0 : decode cX1_listen 0 = .ok (.aload_n 0, 1) := by decide +kernel
theorem dX1_listen_1 : decode cX1_listen 1 = .ok (.getfield 11, 3) := by decide +kernel
theorem dX1_listen_4 : decode cX1_listen 4 = .ok (.iconst 0, 1) := by decide +kernel
theorem dX1_listen_5 : decode cX1_listen 5 = .ok (.invokestatic 82, 3) := by decide +kernel
theorem dX1_listen_8 : decode cX1_listen 8 = .ok (.aload_n 0, 1) := by decide +kernel
theorem dX1_listen_9 : decode cX1_listen 9 = .ok (.getfield 11, 3) := by decide +kernel
theorem dX1_listen_12 : decode cX1_listen 12 = .ok (.iconst 1, 1) := by decide +kernel
theorem dX1_listen_13 : decode cX1_listen 13 = .ok (.iload_n 2, 1) := by decide +kernel
theorem dX1_listen_14 : decode cX1_listen 14 = .ok (.iastore, 1) := by decide +kernel
theorem dX1_listen_15 : decode cX1_listen 15 = .ok (.aload_n 0, 1) := by decide +kernel
theorem dX1_listen_16 : decode cX1_listen 16 = .ok (.getfield 11, 3) := by decide +kernel
theorem dX1_listen_19 : decode cX1_listen 19 = .ok (.iconst 2, 1) := by decide +kernel
theorem dX1_listen_20 : decode cX1_listen 20 = .ok (.iload_n 1, 1) := by decide +kernel
theorem dX1_listen_21 : decode cX1_listen 21 = .ok (.iastore, 1) := by decide +kernel
theorem dX1_listen_22 : decode cX1_listen 22 = .ok (.return_, 1) := by decide +kernel
theorem dX1_howMany_0 : decode cX1_howMany 0 = .ok (.aload_n 0, 1) := by decide +kernel
theorem dX1_howMany_1 : decode cX1_howMany 1 = .ok (.getfield 90, 3) := by decide +kernel
theorem dX1_howMany_4 : decode cX1_howMany 4 = .ok (.aload_n 0, 1) := by decide +kernel
theorem dX1_howMany_5 : decode cX1_howMany 5 = .ok (.getfield 30, 3) := by decide +kernel
theorem dX1_howMany_8 : decode cX1_howMany 8 = .ok (.iload_n 1, 1) := by decide +kernel
theorem dX1_howMany_9 : decode cX1_howMany 9 = .ok (.iaload, 1) := by decide +kernel
theorem dX1_howMany_10 : decode cX1_howMany 10 = .ok (.iand, 1) := by decide +kernel
theorem dX1_howMany_11 : decode cX1_howMany 11 = .ok (.invokestatic 125, 3) := by decide +kernel
theorem dX1_howMany_14 : decode cX1_howMany 14 = .ok (.ireturn, 1) := by decide +kernel
theorem dX1_isHeard_0 : decode cX1_isHeard 0 = .ok (.aload_n 0, 1) := by decide +kernel
theorem dX1_isHeard_1 : decode cX1_isHeard 1 = .ok (.getfield 33, 3) := by decide +kernel
theorem dX1_isHeard_4 : decode cX1_isHeard 4 = .ok (.iload_n 1, 1) := by decide +kernel
theorem dX1_isHeard_5 : decode cX1_isHeard 5 = .ok (.iaload, 1) := by decide +kernel
theorem dX1_isHeard_6 : decode cX1_isHeard 6 = .ok (.aload_n 0, 1) := by decide +kernel
theorem dX1_isHeard_7 : decode cX1_isHeard 7 = .ok (.getfield 39, 3) := by decide +kernel
theorem dX1_isHeard_10 : decode cX1_isHeard 10 = .ok (.getfield 147, 3) := by decide +kernel
theorem dX1_isHeard_13 : decode cX1_isHeard 13 = .ok (.if_icmp .le 7, 3) := by decide +kernel
theorem dX1_isHeard_16 : decode cX1_isHeard 16 = .ok (.iconst 1, 1) := by decide +kernel
theorem dX1_isHeard_17 : decode cX1_isHeard 17 = .ok (.goto 4, 3) := by decide +kernel
theorem dX1_isHeard_20 : decode cX1_isHeard 20 = .ok (.iconst 0, 1) := by decide +kernel
theorem dX1_isHeard_21 : decode cX1_isHeard 21 = .ok (.ireturn, 1) := by decide +kernel
theorem dX1_allBreaths_0 : decode cX1_allBreaths 0 = .ok (.aload_n 0, 1) := by decide +kernel
theorem dX1_allBreaths_1 : decode cX1_allBreaths 1 = .ok (.getfield 23, 3) := by decide +kernel
theorem dX1_allBreaths_4 : decode cX1_allBreaths 4 = .ok (.aload_n 0, 1) := by decide +kernel
theorem dX1_allBreaths_5 : decode cX1_allBreaths 5 = .ok (.getfield 51, 3) := by decide +kernel
theorem dX1_allBreaths_8 : decode cX1_allBreaths 8 = .ok (.invokestatic 150, 3) := by decide +kernel
theorem dX1_allBreaths_11 : decode cX1_allBreaths 11 = .ok (.ireturn, 1) := by decide +kernel
theorem dX1_stateOf_0 : decode cX1_stateOf 0 = .ok (.lconst 0, 1) := by decide +kernel
theorem dX1_stateOf_1 : decode cX1_stateOf 1 = .ok (.lstore_n 3, 1) := by decide +kernel
theorem dX1_stateOf_2 : decode cX1_stateOf 2 = .ok (.iload_n 1, 1) := by decide +kernel
theorem dX1_stateOf_3 : decode cX1_stateOf 3 = .ok (.istore 5, 2) := by decide +kernel
theorem dX1_stateOf_5 : decode cX1_stateOf 5 = .ok (.iload 5, 2) := by decide +kernel
theorem dX1_stateOf_7 : decode cX1_stateOf 7 = .ok (.iload_n 2, 1) := by decide +kernel
theorem dX1_stateOf_8 : decode cX1_stateOf 8 = .ok (.if_icmp .ge 43, 3) := by decide +kernel
theorem dX1_stateOf_11 : decode cX1_stateOf 11 = .ok (.iload 5, 2) := by decide +kernel
theorem dX1_stateOf_13 : decode cX1_stateOf 13 = .ok (.aload_n 0, 1) := by decide +kernel
theorem dX1_stateOf_14 : decode cX1_stateOf 14 = .ok (.getfield 51, 3) := by decide +kernel
theorem dX1_stateOf_17 : decode cX1_stateOf 17 = .ok (.if_icmp .ge 34, 3) := by decide +kernel
theorem dX1_stateOf_20 : decode cX1_stateOf 20 = .ok (.lload_n 3, 1) := by decide +kernel
theorem dX1_stateOf_21 : decode cX1_stateOf 21 = .ok (.bipush 12, 2) := by decide +kernel
theorem dX1_stateOf_23 : decode cX1_stateOf 23 = .ok (.lshl, 1) := by decide +kernel
theorem dX1_stateOf_24 : decode cX1_stateOf 24 = .ok (.aload_n 0, 1) := by decide +kernel
theorem dX1_stateOf_25 : decode cX1_stateOf 25 = .ok (.getfield 17, 3) := by decide +kernel
theorem dX1_stateOf_28 : decode cX1_stateOf 28 = .ok (.iload 5, 2) := by decide +kernel
theorem dX1_stateOf_30 : decode cX1_stateOf 30 = .ok (.iaload, 1) := by decide +kernel
theorem dX1_stateOf_31 : decode cX1_stateOf 31 = .ok (.iconst 5, 1) := by decide +kernel
theorem dX1_stateOf_32 : decode cX1_stateOf 32 = .ok (.ishl, 1) := by decide +kernel
theorem dX1_stateOf_33 : decode cX1_stateOf 33 = .ok (.i2l, 1) := by decide +kernel
theorem dX1_stateOf_34 : decode cX1_stateOf 34 = .ok (.ladd, 1) := by decide +kernel
theorem dX1_stateOf_35 : decode cX1_stateOf 35 = .ok (.aload_n 0, 1) := by decide +kernel
theorem dX1_stateOf_36 : decode cX1_stateOf 36 = .ok (.getfield 20, 3) := by decide +kernel
theorem dX1_stateOf_39 : decode cX1_stateOf 39 = .ok (.iload 5, 2) := by decide +kernel
theorem dX1_stateOf_41 : decode cX1_stateOf 41 = .ok (.iaload, 1) := by decide +kernel
theorem dX1_stateOf_42 : decode cX1_stateOf 42 = .ok (.i2l, 1) := by decide +kernel
theorem dX1_stateOf_43 : decode cX1_stateOf 43 = .ok (.ladd, 1) := by decide +kernel
theorem dX1_stateOf_44 : decode cX1_stateOf 44 = .ok (.lstore_n 3, 1) := by decide +kernel
theorem dX1_stateOf_45 : decode cX1_stateOf 45 = .ok (.iinc 5 1, 3) := by decide +kernel
theorem dX1_stateOf_48 : decode cX1_stateOf 48 = .ok (.goto (-43), 3) := by decide +kernel
theorem dX1_stateOf_51 : decode cX1_stateOf 51 = .ok (.lload_n 3, 1) := by decide +kernel
theorem dX1_stateOf_52 : decode cX1_stateOf 52 = .ok (.lreturn, 1) := by decide +kernel
theorem dX1_wrongHere_0 : decode cX1_wrongHere 0 = .ok (.aload_n 0, 1) := by decide +kernel
theorem dX1_wrongHere_1 : decode cX1_wrongHere 1 = .ok (.getfield 39, 3) := by decide +kernel
theorem dX1_wrongHere_4 : decode cX1_wrongHere 4 = .ok (.getfield 154, 3) := by decide +kernel
theorem dX1_wrongHere_7 : decode cX1_wrongHere 7 = .ok (.iload_n 1, 1) := by decide +kernel
theorem dX1_wrongHere_8 : decode cX1_wrongHere 8 = .ok (.iaload, 1) := by decide +kernel
theorem dX1_wrongHere_9 : decode cX1_wrongHere 9 = .ok (.istore_n 2, 1) := by decide +kernel
theorem dX1_wrongHere_10 : decode cX1_wrongHere 10 = .ok (.iconst 0, 1) := by decide +kernel
theorem dX1_wrongHere_11 : decode cX1_wrongHere 11 = .ok (.istore_n 3, 1) := by decide +kernel
theorem dX1_wrongHere_12 : decode cX1_wrongHere 12 = .ok (.iload_n 3, 1) := by decide +kernel
theorem dX1_wrongHere_13 : decode cX1_wrongHere 13 = .ok (.aload_n 0, 1) := by decide +kernel
theorem dX1_wrongHere_14 : decode cX1_wrongHere 14 = .ok (.getfield 51, 3) := by decide +kernel
theorem dX1_wrongHere_17 : decode cX1_wrongHere 17 = .ok (.if_icmp .ge 47, 3) := by decide +kernel
theorem dX1_wrongHere_20 : decode cX1_wrongHere 20 = .ok (.aload_n 0, 1) := by decide +kernel
theorem dX1_wrongHere_21 : decode cX1_wrongHere 21 = .ok (.iload_n 3, 1) := by decide +kernel
theorem dX1_wrongHere_22 : decode cX1_wrongHere 22 = .ok (.invokevirtual 130, 3) := by decide +kernel
theorem dX1_wrongHere_25 : decode cX1_wrongHere 25 = .ok (.ifCond .ne 33, 3) := by decide +kernel
theorem dX1_wrongHere_28 : decode cX1_wrongHere 28 = .ok (.aload_n 0, 1) := by decide +kernel
theorem dX1_wrongHere_29 : decode cX1_wrongHere 29 = .ok (.getfield 17, 3) := by decide +kernel
theorem dX1_wrongHere_32 : decode cX1_wrongHere 32 = .ok (.iload_n 3, 1) := by decide +kernel
theorem dX1_wrongHere_33 : decode cX1_wrongHere 33 = .ok (.iaload, 1) := by decide +kernel
theorem dX1_wrongHere_34 : decode cX1_wrongHere 34 = .ok (.aload_n 0, 1) := by decide +kernel
theorem dX1_wrongHere_35 : decode cX1_wrongHere 35 = .ok (.getfield 43, 3) := by decide +kernel
theorem dX1_wrongHere_38 : decode cX1_wrongHere 38 = .ok (.iload_n 3, 1) := by decide +kernel
theorem dX1_wrongHere_39 : decode cX1_wrongHere 39 = .ok (.aaload, 1) := by decide +kernel
theorem dX1_wrongHere_40 : decode cX1_wrongHere 40 = .ok (.iload_n 2, 1) := by decide +kernel
theorem dX1_wrongHere_41 : decode cX1_wrongHere 41 = .ok (.aload_n 0, 1) := by decide +kernel
theorem dX1_wrongHere_42 : decode cX1_wrongHere 42 = .ok (.getfield 23, 3) := by decide +kernel
theorem dX1_wrongHere_45 : decode cX1_wrongHere 45 = .ok (.iload_n 3, 1) := by decide +kernel
theorem dX1_wrongHere_46 : decode cX1_wrongHere 46 = .ok (.iaload, 1) := by decide +kernel
theorem dX1_wrongHere_47 : decode cX1_wrongHere 47 = .ok (.invokevirtual 118, 3) := by decide +kernel
theorem dX1_wrongHere_50 : decode cX1_wrongHere 50 = .ok (.if_icmp .le 8, 3) := by decide +kernel
theorem dX1_wrongHere_53 : decode cX1_wrongHere 53 = .ok (.bipush 100, 2) := by decide +kernel
theorem dX1_wrongHere_55 : decode cX1_wrongHere 55 = .ok (.iload_n 3, 1) := by decide +kernel
theorem dX1_wrongHere_56 : decode cX1_wrongHere 56 = .ok (.iadd, 1) := by decide +kernel
theorem dX1_wrongHere_57 : decode cX1_wrongHere 57 = .ok (.ireturn, 1) := by decide +kernel
theorem dX1_wrongHere_58 : decode cX1_wrongHere 58 = .ok (.iinc 3 1, 3) := by decide +kernel
theorem dX1_wrongHere_61 : decode cX1_wrongHere 61 = .ok (.goto (-49), 3) := by decide +kernel
theorem dX1_wrongHere_64 : decode cX1_wrongHere 64 = .ok (.iconst 0, 1) := by decide +kernel
theorem dX1_wrongHere_65 : decode cX1_wrongHere 65 = .ok (.istore_n 3, 1) := by decide +kernel
theorem dX1_wrongHere_66 : decode cX1_wrongHere 66 = .ok (.iload_n 3, 1) := by decide +kernel
theorem dX1_wrongHere_67 : decode cX1_wrongHere 67 = .ok (.iconst 1, 1) := by decide +kernel
theorem dX1_wrongHere_68 : decode cX1_wrongHere 68 = .ok (.iadd, 1) := by decide +kernel
theorem dX1_wrongHere_69 : decode cX1_wrongHere 69 = .ok (.aload_n 0, 1) := by decide +kernel
theorem dX1_wrongHere_70 : decode cX1_wrongHere 70 = .ok (.getfield 51, 3) := by decide +kernel
theorem dX1_wrongHere_73 : decode cX1_wrongHere 73 = .ok (.if_icmp .ge 33, 3) := by decide +kernel
theorem dX1_wrongHere_76 : decode cX1_wrongHere 76 = .ok (.aload_n 0, 1) := by decide +kernel
theorem dX1_wrongHere_77 : decode cX1_wrongHere 77 = .ok (.iload_n 3, 1) := by decide +kernel
theorem dX1_wrongHere_78 : decode cX1_wrongHere 78 = .ok (.invokevirtual 130, 3) := by decide +kernel
theorem dX1_wrongHere_81 : decode cX1_wrongHere 81 = .ok (.ifCond .eq 19, 3) := by decide +kernel
theorem dX1_wrongHere_84 : decode cX1_wrongHere 84 = .ok (.aload_n 0, 1) := by decide +kernel
theorem dX1_wrongHere_85 : decode cX1_wrongHere 85 = .ok (.iload_n 3, 1) := by decide +kernel
theorem dX1_wrongHere_86 : decode cX1_wrongHere 86 = .ok (.iconst 1, 1) := by decide +kernel
theorem dX1_wrongHere_87 : decode cX1_wrongHere 87 = .ok (.iadd, 1) := by decide +kernel
theorem dX1_wrongHere_88 : decode cX1_wrongHere 88 = .ok (.invokevirtual 130, 3) := by decide +kernel
theorem dX1_wrongHere_91 : decode cX1_wrongHere 91 = .ok (.ifCond .eq 9, 3) := by decide +kernel
theorem dX1_wrongHere_94 : decode cX1_wrongHere 94 = .ok (.sipush 200, 3) := by decide +kernel
theorem dX1_wrongHere_97 : decode cX1_wrongHere 97 = .ok (.iload_n 3, 1) := by decide +kernel
theorem dX1_wrongHere_98 : decode cX1_wrongHere 98 = .ok (.iadd, 1) := by decide +kernel
theorem dX1_wrongHere_99 : decode cX1_wrongHere 99 = .ok (.ireturn, 1) := by decide +kernel
theorem dX1_wrongHere_100 : decode cX1_wrongHere 100 = .ok (.iinc 3 1, 3) := by decide +kernel
theorem dX1_wrongHere_103 : decode cX1_wrongHere 103 = .ok (.goto (-37), 3) := by decide +kernel
theorem dX1_wrongHere_106 : decode cX1_wrongHere 106 = .ok (.iconst 0, 1) := by decide +kernel
theorem dX1_wrongHere_107 : decode cX1_wrongHere 107 = .ok (.istore_n 3, 1) := by decide +kernel
theorem dX1_wrongHere_108 : decode cX1_wrongHere 108 = .ok (.iload_n 3, 1) := by decide +kernel
theorem dX1_wrongHere_109 : decode cX1_wrongHere 109 = .ok (.iconst 4, 1) := by decide +kernel
theorem dX1_wrongHere_110 : decode cX1_wrongHere 110 = .ok (.if_icmp .ge 23, 3) := by decide +kernel
theorem dX1_wrongHere_113 : decode cX1_wrongHere 113 = .ok (.aload_n 0, 1) := by decide +kernel
theorem dX1_wrongHere_114 : decode cX1_wrongHere 114 = .ok (.iload_n 3, 1) := by decide +kernel
theorem dX1_wrongHere_115 : decode cX1_wrongHere 115 = .ok (.invokevirtual 157, 3) := by decide +kernel
theorem dX1_wrongHere_118 : decode cX1_wrongHere 118 = .ok (.ifCond .eq 9, 3) := by decide +kernel
theorem dX1_wrongHere_121 : decode cX1_wrongHere 121 = .ok (.sipush 300, 3) := by decide +kernel
theorem dX1_wrongHere_124 : decode cX1_wrongHere 124 = .ok (.iload_n 3, 1) := by decide +kernel
theorem dX1_wrongHere_125 : decode cX1_wrongHere 125 = .ok (.iadd, 1) := by decide +kernel
theorem dX1_wrongHere_126 : decode cX1_wrongHere 126 = .ok (.ireturn, 1) := by decide +kernel
theorem dX1_wrongHere_127 : decode cX1_wrongHere 127 = .ok (.iinc 3 1, 3) := by decide +kernel
theorem dX1_wrongHere_130 : decode cX1_wrongHere 130 = .ok (.goto (-22), 3) := by decide +kernel
theorem dX1_wrongHere_133 : decode cX1_wrongHere 133 = .ok (.aload_n 0, 1) := by decide +kernel
theorem dX1_wrongHere_134 : decode cX1_wrongHere 134 = .ok (.getfield 39, 3) := by decide +kernel
theorem dX1_wrongHere_137 : decode cX1_wrongHere 137 = .ok (.getfield 160, 3) := by decide +kernel
theorem dX1_wrongHere_140 : decode cX1_wrongHere 140 = .ok (.iload_n 1, 1) := by decide +kernel
theorem dX1_wrongHere_141 : decode cX1_wrongHere 141 = .ok (.iaload, 1) := by decide +kernel
theorem dX1_wrongHere_142 : decode cX1_wrongHere 142 = .ok (.iconst 1, 1) := by decide +kernel
theorem dX1_wrongHere_143 : decode cX1_wrongHere 143 = .ok (.if_icmp .ne 17, 3) := by decide +kernel
theorem dX1_wrongHere_146 : decode cX1_wrongHere 146 = .ok (.aload_n 0, 1) := by decide +kernel
theorem dX1_wrongHere_147 : decode cX1_wrongHere 147 = .ok (.iload_n 2, 1) := by decide +kernel
theorem dX1_wrongHere_148 : decode cX1_wrongHere 148 = .ok (.invokevirtual 163, 3) := by decide +kernel
theorem dX1_wrongHere_151 : decode cX1_wrongHere 151 = .ok (.ifCond .ne 9, 3) := by decide +kernel
theorem dX1_wrongHere_154 : decode cX1_wrongHere 154 = .ok (.sipush 400, 3) := by decide +kernel
theorem dX1_wrongHere_157 : decode cX1_wrongHere 157 = .ok (.goto 4, 3) := by decide +kernel
theorem dX1_wrongHere_160 : decode cX1_wrongHere 160 = .ok (.iconst (-1), 1) := by decide +kernel
theorem dX1_wrongHere_161 : decode cX1_wrongHere 161 = .ok (.ireturn, 1) := by decide +kernel
theorem dX1_isSaid_0 : decode cX1_isSaid 0 = .ok (.iconst 0, 1) := by decide +kernel
theorem dX1_isSaid_1 : decode cX1_isSaid 1 = .ok (.istore_n 2, 1) := by decide +kernel
theorem dX1_isSaid_2 : decode cX1_isSaid 2 = .ok (.iconst 0, 1) := by decide +kernel
theorem dX1_isSaid_3 : decode cX1_isSaid 3 = .ok (.istore_n 3, 1) := by decide +kernel
theorem dX1_isSaid_4 : decode cX1_isSaid 4 = .ok (.iload_n 3, 1) := by decide +kernel
theorem dX1_isSaid_5 : decode cX1_isSaid 5 = .ok (.aload_n 0, 1) := by decide +kernel
theorem dX1_isSaid_6 : decode cX1_isSaid 6 = .ok (.getfield 51, 3) := by decide +kernel
theorem dX1_isSaid_9 : decode cX1_isSaid 9 = .ok (.if_icmp .ge 33, 3) := by decide +kernel
theorem dX1_isSaid_12 : decode cX1_isSaid 12 = .ok (.aload_n 0, 1) := by decide +kernel
theorem dX1_isSaid_13 : decode cX1_isSaid 13 = .ok (.iload_n 3, 1) := by decide +kernel
theorem dX1_isSaid_14 : decode cX1_isSaid 14 = .ok (.invokevirtual 130, 3) := by decide +kernel
theorem dX1_isSaid_17 : decode cX1_isSaid 17 = .ok (.ifCond .ne 19, 3) := by decide +kernel
theorem dX1_isSaid_20 : decode cX1_isSaid 20 = .ok (.aload_n 0, 1) := by decide +kernel
theorem dX1_isSaid_21 : decode cX1_isSaid 21 = .ok (.getfield 43, 3) := by decide +kernel
theorem dX1_isSaid_24 : decode cX1_isSaid 24 = .ok (.iload_n 3, 1) := by decide +kernel
theorem dX1_isSaid_25 : decode cX1_isSaid 25 = .ok (.aaload, 1) := by decide +kernel
theorem dX1_isSaid_26 : decode cX1_isSaid 26 = .ok (.iload_n 1, 1) := by decide +kernel
theorem dX1_isSaid_27 : decode cX1_isSaid 27 = .ok (.invokevirtual 166, 3) := by decide +kernel
theorem dX1_isSaid_30 : decode cX1_isSaid 30 = .ok (.ifCond .eq 6, 3) := by decide +kernel
theorem dX1_isSaid_33 : decode cX1_isSaid 33 = .ok (.iinc 2 1, 3) := by decide +kernel
theorem dX1_isSaid_36 : decode cX1_isSaid 36 = .ok (.iinc 3 1, 3) := by decide +kernel
theorem dX1_isSaid_39 : decode cX1_isSaid 39 = .ok (.goto (-35), 3) := by decide +kernel
theorem dX1_isSaid_42 : decode cX1_isSaid 42 = .ok (.iload_n 2, 1) := by decide +kernel
theorem dX1_isSaid_43 : decode cX1_isSaid 43 = .ok (.iconst 1, 1) := by decide +kernel
theorem dX1_isSaid_44 : decode cX1_isSaid 44 = .ok (.if_icmp .lt 12, 3) := by decide +kernel
theorem dX1_isSaid_47 : decode cX1_isSaid 47 = .ok (.iload_n 2, 1) := by decide +kernel
theorem dX1_isSaid_48 : decode cX1_isSaid 48 = .ok (.iconst 3, 1) := by decide +kernel
theorem dX1_isSaid_49 : decode cX1_isSaid 49 = .ok (.if_icmp .gt 7, 3) := by decide +kernel
theorem dX1_isSaid_52 : decode cX1_isSaid 52 = .ok (.iconst 1, 1) := by decide +kernel
theorem dX1_isSaid_53 : decode cX1_isSaid 53 = .ok (.goto 4, 3) := by decide +kernel
theorem dX1_isSaid_56 : decode cX1_isSaid 56 = .ok (.iconst 0, 1) := by decide +kernel
theorem dX1_isSaid_57 : decode cX1_isSaid 57 = .ok (.ireturn, 1) := by decide +kernel
theorem dX1_weigh_0 : decode cX1_weigh 0 = .ok (.iconst 0, 1) := by decide +kernel
theorem dX1_weigh_1 : decode cX1_weigh 1 = .ok (.istore_n 1, 1) := by decide +kernel
theorem dX1_weigh_2 : decode cX1_weigh 2 = .ok (.iload_n 1, 1) := by decide +kernel
theorem dX1_weigh_3 : decode cX1_weigh 3 = .ok (.aload_n 0, 1) := by decide +kernel
theorem dX1_weigh_4 : decode cX1_weigh 4 = .ok (.getfield 39, 3) := by decide +kernel
theorem dX1_weigh_7 : decode cX1_weigh 7 = .ok (.getfield 169, 3) := by decide +kernel
theorem dX1_weigh_10 : decode cX1_weigh 10 = .ok (.if_icmp .ge 50, 3) := by decide +kernel
theorem dX1_weigh_13 : decode cX1_weigh 13 = .ok (.aload_n 0, 1) := by decide +kernel
theorem dX1_weigh_14 : decode cX1_weigh 14 = .ok (.iload_n 1, 1) := by decide +kernel
theorem dX1_weigh_15 : decode cX1_weigh 15 = .ok (.aload_n 0, 1) := by decide +kernel
theorem dX1_weigh_16 : decode cX1_weigh 16 = .ok (.getfield 39, 3) := by decide +kernel
theorem dX1_weigh_19 : decode cX1_weigh 19 = .ok (.getfield 154, 3) := by decide +kernel
theorem dX1_weigh_22 : decode cX1_weigh 22 = .ok (.iload_n 1, 1) := by decide +kernel
theorem dX1_weigh_23 : decode cX1_weigh 23 = .ok (.iaload, 1) := by decide +kernel
theorem dX1_weigh_24 : decode cX1_weigh 24 = .ok (.invokevirtual 137, 3) := by decide +kernel
theorem dX1_weigh_27 : decode cX1_weigh 27 = .ok (.aload_n 0, 1) := by decide +kernel
theorem dX1_weigh_28 : decode cX1_weigh 28 = .ok (.getfield 36, 3) := by decide +kernel
theorem dX1_weigh_31 : decode cX1_weigh 31 = .ok (.iload_n 1, 1) := by decide +kernel
theorem dX1_weigh_32 : decode cX1_weigh 32 = .ok (.iconst 0, 1) := by decide +kernel
theorem dX1_weigh_33 : decode cX1_weigh 33 = .ok (.bipush 99, 2) := by decide +kernel
theorem dX1_weigh_35 : decode cX1_weigh 35 = .ok (.aload_n 0, 1) := by decide +kernel
theorem dX1_weigh_36 : decode cX1_weigh 36 = .ok (.getfield 54, 3) := by decide +kernel
theorem dX1_weigh_39 : decode cX1_weigh 39 = .ok (.iconst 2, 1) := by decide +kernel
theorem dX1_weigh_40 : decode cX1_weigh 40 = .ok (.aload_n 0, 1) := by decide +kernel
theorem dX1_weigh_41 : decode cX1_weigh 41 = .ok (.getfield 11, 3) := by decide +kernel
theorem dX1_weigh_44 : decode cX1_weigh 44 = .ok (.invokevirtual 143, 3) := by decide +kernel
theorem dX1_weigh_47 : decode cX1_weigh 47 = .ok (.invokestatic 172, 3) := by decide +kernel
theorem dX1_weigh_50 : decode cX1_weigh 50 = .ok (.invokestatic 177, 3) := by decide +kernel
theorem dX1_weigh_53 : decode cX1_weigh 53 = .ok (.iastore, 1) := by decide +kernel
theorem dX1_weigh_54 : decode cX1_weigh 54 = .ok (.iinc 1 1, 3) := by decide +kernel
theorem dX1_weigh_57 : decode cX1_weigh 57 = .ok (.goto (-55), 3) := by decide +kernel
theorem dX1_weigh_60 : decode cX1_weigh 60 = .ok (.return_, 1) := by decide +kernel
theorem dX1_badOfAll_0 : decode cX1_badOfAll 0 = .ok (.aload_n 0, 1) := by decide +kernel
theorem dX1_badOfAll_1 : decode cX1_badOfAll 1 = .ok (.invokevirtual 180, 3) := by decide +kernel
theorem dX1_badOfAll_4 : decode cX1_badOfAll 4 = .ok (.lconst 0, 1) := by decide +kernel
theorem dX1_badOfAll_5 : decode cX1_badOfAll 5 = .ok (.lstore_n 1, 1) := by decide +kernel
theorem dX1_badOfAll_6 : decode cX1_badOfAll 6 = .ok (.iconst 0, 1) := by decide +kernel
theorem dX1_badOfAll_7 : decode cX1_badOfAll 7 = .ok (.istore_n 3, 1) := by decide +kernel
theorem dX1_badOfAll_8 : decode cX1_badOfAll 8 = .ok (.iload_n 3, 1) := by decide +kernel
theorem dX1_badOfAll_9 : decode cX1_badOfAll 9 = .ok (.aload_n 0, 1) := by decide +kernel
theorem dX1_badOfAll_10 : decode cX1_badOfAll 10 = .ok (.getfield 39, 3) := by decide +kernel
theorem dX1_badOfAll_13 : decode cX1_badOfAll 13 = .ok (.getfield 169, 3) := by decide +kernel
theorem dX1_badOfAll_16 : decode cX1_badOfAll 16 = .ok (.if_icmp .ge 75, 3) := by decide +kernel
theorem dX1_badOfAll_19 : decode cX1_badOfAll 19 = .ok (.aload_n 0, 1) := by decide +kernel
theorem dX1_badOfAll_20 : decode cX1_badOfAll 20 = .ok (.iload_n 3, 1) := by decide +kernel
theorem dX1_badOfAll_21 : decode cX1_badOfAll 21 = .ok (.aload_n 0, 1) := by decide +kernel
theorem dX1_badOfAll_22 : decode cX1_badOfAll 22 = .ok (.getfield 39, 3) := by decide +kernel
theorem dX1_badOfAll_25 : decode cX1_badOfAll 25 = .ok (.getfield 154, 3) := by decide +kernel
theorem dX1_badOfAll_28 : decode cX1_badOfAll 28 = .ok (.iload_n 3, 1) := by decide +kernel
theorem dX1_badOfAll_29 : decode cX1_badOfAll 29 = .ok (.iaload, 1) := by decide +kernel
theorem dX1_badOfAll_30 : decode cX1_badOfAll 30 = .ok (.invokevirtual 183, 3) := by decide +kernel
theorem dX1_badOfAll_33 : decode cX1_badOfAll 33 = .ok (.iconst 0, 1) := by decide +kernel
theorem dX1_badOfAll_34 : decode cX1_badOfAll 34 = .ok (.istore 4, 2) := by decide +kernel
theorem dX1_badOfAll_36 : decode cX1_badOfAll 36 = .ok (.iload 4, 2) := by decide +kernel
theorem dX1_badOfAll_38 : decode cX1_badOfAll 38 = .ok (.iconst 4, 1) := by decide +kernel
theorem dX1_badOfAll_39 : decode cX1_badOfAll 39 = .ok (.if_icmp .ge 46, 3) := by decide +kernel
theorem dX1_badOfAll_42 : decode cX1_badOfAll 42 = .ok (.aload_n 0, 1) := by decide +kernel
theorem dX1_badOfAll_43 : decode cX1_badOfAll 43 = .ok (.iload 4, 2) := by decide +kernel
theorem dX1_badOfAll_45 : decode cX1_badOfAll 45 = .ok (.invokevirtual 157, 3) := by decide +kernel
theorem dX1_badOfAll_48 : decode cX1_badOfAll 48 = .ok (.ifCond .eq 31, 3) := by decide +kernel
theorem dX1_badOfAll_51 : decode cX1_badOfAll 51 = .ok (.lload_n 1, 1) := by decide +kernel
theorem dX1_badOfAll_52 : decode cX1_badOfAll 52 = .ok (.aload_n 0, 1) := by decide +kernel
theorem dX1_badOfAll_53 : decode cX1_badOfAll 53 = .ok (.getfield 36, 3) := by decide +kernel
theorem dX1_badOfAll_56 : decode cX1_badOfAll 56 = .ok (.iload_n 3, 1) := by decide +kernel
theorem dX1_badOfAll_57 : decode cX1_badOfAll 57 = .ok (.iaload, 1) := by decide +kernel
theorem dX1_badOfAll_58 : decode cX1_badOfAll 58 = .ok (.aload_n 0, 1) := by decide +kernel
theorem dX1_badOfAll_59 : decode cX1_badOfAll 59 = .ok (.getfield 39, 3) := by decide +kernel
theorem dX1_badOfAll_62 : decode cX1_badOfAll 62 = .ok (.getfield 106, 3) := by decide +kernel
theorem dX1_badOfAll_65 : decode cX1_badOfAll 65 = .ok (.iload 4, 2) := by decide +kernel
theorem dX1_badOfAll_67 : decode cX1_badOfAll 67 = .ok (.iaload, 1) := by decide +kernel
theorem dX1_badOfAll_68 : decode cX1_badOfAll 68 = .ok (.aload_n 0, 1) := by decide +kernel
theorem dX1_badOfAll_69 : decode cX1_badOfAll 69 = .ok (.iload 4, 2) := by decide +kernel
theorem dX1_badOfAll_71 : decode cX1_badOfAll 71 = .ok (.invokevirtual 103, 3) := by decide +kernel
theorem dX1_badOfAll_74 : decode cX1_badOfAll 74 = .ok (.isub, 1) := by decide +kernel
theorem dX1_badOfAll_75 : decode cX1_badOfAll 75 = .ok (.imul, 1) := by decide +kernel
theorem dX1_badOfAll_76 : decode cX1_badOfAll 76 = .ok (.i2l, 1) := by decide +kernel
theorem dX1_badOfAll_77 : decode cX1_badOfAll 77 = .ok (.ladd, 1) := by decide +kernel
theorem dX1_badOfAll_78 : decode cX1_badOfAll 78 = .ok (.lstore_n 1, 1) := by decide +kernel
theorem dX1_badOfAll_79 : decode cX1_badOfAll 79 = .ok (.iinc 4 1, 3) := by decide +kernel
theorem dX1_badOfAll_82 : decode cX1_badOfAll 82 = .ok (.goto (-46), 3) := by decide +kernel
theorem dX1_badOfAll_85 : decode cX1_badOfAll 85 = .ok (.iinc 3 1, 3) := by decide +kernel
theorem dX1_badOfAll_88 : decode cX1_badOfAll 88 = .ok (.goto (-80), 3) := by decide +kernel
theorem dX1_badOfAll_91 : decode cX1_badOfAll 91 = .ok (.lload_n 1, 1) := by decide +kernel
theorem dX1_badOfAll_92 : decode cX1_badOfAll 92 = .ok (.lreturn, 1) := by decide +kernel
theorem dX1_breathesBehind_0 : decode cX1_breathesBehind 0 = .ok (.aload_n 0, 1) := by decide +kernel
theorem dX1_breathesBehind_1 : decode cX1_breathesBehind 1 = .ok (.getfield 26, 3) := by decide +kernel
theorem dX1_breathesBehind_4 : decode cX1_breathesBehind 4 = .ok (.iload_n 1, 1) := by decide +kernel
theorem dX1_breathesBehind_5 : decode cX1_breathesBehind 5 = .ok (.laload, 1) := by decide +kernel
theorem dX1_breathesBehind_6 : decode cX1_breathesBehind 6 = .ok (.iload_n 2, 1) := by decide +kernel
theorem dX1_breathesBehind_7 : decode cX1_breathesBehind 7 = .ok (.lshr, 1) := by decide +kernel
theorem dX1_breathesBehind_8 : decode cX1_breathesBehind 8 = .ok (.lconst 1, 1) := by decide +kernel
theorem dX1_breathesBehind_9 : decode cX1_breathesBehind 9 = .ok (.lcmp, 1) := by decide +kernel
theorem dX1_breathesBehind_10 : decode cX1_breathesBehind 10 = .ok (.ifCond .le 7, 3) := by decide +kernel
theorem dX1_breathesBehind_13 : decode cX1_breathesBehind 13 = .ok (.iconst 1, 1) := by decide +kernel
theorem dX1_breathesBehind_14 : decode cX1_breathesBehind 14 = .ok (.goto 4, 3) := by decide +kernel
theorem dX1_breathesBehind_17 : decode cX1_breathesBehind 17 = .ok (.iconst 0, 1) := by decide +kernel
theorem dX1_breathesBehind_18 : decode cX1_breathesBehind 18 = .ok (.ireturn, 1) := by decide +kernel
theorem dX2_init_0 : decode cX2_init 0 = .ok (.aload_n 0, 1) := by decide +kernel
theorem dX2_init_1 : decode cX2_init 1 = .ok (.iload_n 1, 1) := by decide +kernel
theorem dX2_init_2 : decode cX2_init 2 = .ok (.iload_n 2, 1) := by decide +kernel
theorem dX2_init_3 : decode cX2_init 3 = .ok (.iload_n 3, 1) := by decide +kernel
theorem dX2_init_4 : decode cX2_init 4 = .ok (.invokespecial 1, 3) := by decide +kernel
theorem dX2_init_7 : decode cX2_init 7 = .ok (.return_, 1) := by decide +kernel
theorem dX2_kind_0 : decode cX2_kind 0 = .ok (.iconst 4, 1) := by decide +kernel
theorem dX2_kind_1 : decode cX2_kind 1 = .ok (.ireturn, 1) := by decide +kernel
theorem dX2_isUnder_0 : decode cX2_isUnder 0 = .ok (.iload_n 1, 1) := by decide +kernel
theorem dX2_isUnder_1 : decode cX2_isUnder 1 = .ok (.iconst 4, 1) := by decide +kernel
theorem dX2_isUnder_2 : decode cX2_isUnder 2 = .ok (.if_icmp .eq 11, 3) := by decide +kernel
theorem dX2_isUnder_5 : decode cX2_isUnder 5 = .ok (.aload_n 0, 1) := by decide +kernel
theorem dX2_isUnder_6 : decode cX2_isUnder 6 = .ok (.iload_n 1, 1) := by decide +kernel
theorem dX2_isUnder_7 : decode cX2_isUnder 7 = .ok (.invokespecial 9, 3) := by decide +kernel
theorem dX2_isUnder_10 : decode cX2_isUnder 10 = .ok (.ifCond .eq 7, 3) := by decide +kernel
theorem dX2_isUnder_13 : decode cX2_isUnder 13 = .ok (.iconst 1, 1) := by decide +kernel
theorem dX2_isUnder_14 : decode cX2_isUnder 14 = .ok (.goto 4, 3) := by decide +kernel
theorem dX2_isUnder_17 : decode cX2_isUnder 17 = .ok (.iconst 0, 1) := by decide +kernel
theorem dX2_isUnder_18 : decode cX2_isUnder 18 = .ok (.ireturn, 1) := by decide +kernel
theorem dX2_reach_0 : decode cX2_reach 0 = .ok (.aload_n 0, 1) := by decide +kernel
theorem dX2_reach_1 : decode cX2_reach 1 = .ok (.iload_n 1, 1) := by decide +kernel
theorem dX2_reach_2 : decode cX2_reach 2 = .ok (.iload_n 2, 1) := by decide +kernel
theorem dX2_reach_3 : decode cX2_reach 3 = .ok (.invokespecial 13, 3) := by decide +kernel
theorem dX2_reach_6 : decode cX2_reach 6 = .ok (.aload_n 0, 1) := by decide +kernel
theorem dX2_reach_7 : decode cX2_reach 7 = .ok (.getfield 17, 3) := by decide +kernel
theorem dX2_reach_10 : decode cX2_reach 10 = .ok (.iadd, 1) := by decide +kernel
theorem dX2_reach_11 : decode cX2_reach 11 = .ok (.ireturn, 1) := by decide +kernel
theorem dX3_init_0 : decode cX3_init 0 = .ok (.aload_n 0, 1) := by decide +kernel
theorem dX3_init_1 : decode cX3_init 1 = .ok (.iload_n 1, 1) := by decide +kernel
theorem dX3_init_2 : decode cX3_init 2 = .ok (.iload_n 2, 1) := by decide +kernel
theorem dX3_init_3 : decode cX3_init 3 = .ok (.iload_n 3, 1) := by decide +kernel
theorem dX3_init_4 : decode cX3_init 4 = .ok (.invokespecial 1, 3) := by decide +kernel
theorem dX3_init_7 : decode cX3_init 7 = .ok (.return_, 1) := by decide +kernel
theorem dX3_kind_0 : decode cX3_kind 0 = .ok (.iconst 3, 1) := by decide +kernel
theorem dX3_kind_1 : decode cX3_kind 1 = .ok (.ireturn, 1) := by decide +kernel
theorem dX3_isUnder_0 : decode cX3_isUnder 0 = .ok (.iload_n 1, 1) := by decide +kernel
theorem dX3_isUnder_1 : decode cX3_isUnder 1 = .ok (.iconst 3, 1) := by decide +kernel
theorem dX3_isUnder_2 : decode cX3_isUnder 2 = .ok (.if_icmp .eq 11, 3) := by decide +kernel
theorem dX3_isUnder_5 : decode cX3_isUnder 5 = .ok (.aload_n 0, 1) := by decide +kernel
theorem dX3_isUnder_6 : decode cX3_isUnder 6 = .ok (.iload_n 1, 1) := by decide +kernel
theorem dX3_isUnder_7 : decode cX3_isUnder 7 = .ok (.invokespecial 9, 3) := by decide +kernel
theorem dX3_isUnder_10 : decode cX3_isUnder 10 = .ok (.ifCond .eq 7, 3) := by decide +kernel
theorem dX3_isUnder_13 : decode cX3_isUnder 13 = .ok (.iconst 1, 1) := by decide +kernel
theorem dX3_isUnder_14 : decode cX3_isUnder 14 = .ok (.goto 4, 3) := by decide +kernel
theorem dX3_isUnder_17 : decode cX3_isUnder 17 = .ok (.iconst 0, 1) := by decide +kernel
theorem dX3_isUnder_18 : decode cX3_isUnder 18 = .ok (.ireturn, 1) := by decide +kernel
theorem dX3_reach_0 : decode cX3_reach 0 = .ok (.aload_n 0, 1) := by decide +kernel
theorem dX3_reach_1 : decode cX3_reach 1 = .ok (.iload_n 1, 1) := by decide +kernel
theorem dX3_reach_2 : decode cX3_reach 2 = .ok (.iload_n 2, 1) := by decide +kernel
theorem dX3_reach_3 : decode cX3_reach 3 = .ok (.invokespecial 13, 3) := by decide +kernel
theorem dX3_reach_6 : decode cX3_reach 6 = .ok (.aload_n 0, 1) := by decide +kernel
theorem dX3_reach_7 : decode cX3_reach 7 = .ok (.getfield 17, 3) := by decide +kernel
theorem dX3_reach_10 : decode cX3_reach 10 = .ok (.isub, 1) := by decide +kernel
theorem dX3_reach_11 : decode cX3_reach 11 = .ok (.ireturn, 1) := by decide +kernel
theorem dX3_says_0 : decode cX3_says 0 = .ok (.iload_n 1, 1) := by decide +kernel
theorem dX3_says_1 : decode cX3_says 1 = .ok (.iconst 5, 1) := by decide +kernel
theorem dX3_says_2 : decode cX3_says 2 = .ok (.if_icmp .ge 15, 3) := by decide +kernel
theorem dX3_says_5 : decode cX3_says 5 = .ok (.aload_n 0, 1) := by decide +kernel
theorem dX3_says_6 : decode cX3_says 6 = .ok (.iload_n 1, 1) := by decide +kernel
theorem dX3_says_7 : decode cX3_says 7 = .ok (.invokespecial 21, 3) := by decide +kernel
theorem dX3_says_10 : decode cX3_says 10 = .ok (.ifCond .eq 7, 3) := by decide +kernel
theorem dX3_says_13 : decode cX3_says 13 = .ok (.iconst 1, 1) := by decide +kernel
theorem dX3_says_14 : decode cX3_says 14 = .ok (.goto 4, 3) := by decide +kernel
theorem dX3_says_17 : decode cX3_says 17 = .ok (.iconst 0, 1) := by decide +kernel
theorem dX3_says_18 : decode cX3_says 18 = .ok (.ireturn, 1) := by decide +kernel
theorem dX4_init_0 : decode cX4_init 0 = .ok (.aload_n 0, 1) := by decide +kernel
theorem dX4_init_1 : decode cX4_init 1 = .ok (.invokespecial 3, 3) := by decide +kernel
theorem dX4_init_4 : decode cX4_init 4 = .ok (.aload_n 0, 1) := by decide +kernel
theorem dX4_init_5 : decode cX4_init 5 = .ok (.bipush 48, 2) := by decide +kernel
theorem dX4_init_7 : decode cX4_init 7 = .ok (.newarray .int, 2) := by decide +kernel
theorem dX4_init_9 : decode cX4_init 9 = .ok (.putfield 9, 3) := by decide +kernel
theorem dX4_init_12 : decode cX4_init 12 = .ok (.aload_n 0, 1) := by decide +kernel
theorem dX4_init_13 : decode cX4_init 13 = .ok (.bipush 48, 2) := by decide +kernel
theorem dX4_init_15 : decode cX4_init 15 = .ok (.newarray .int, 2) := by decide +kernel
theorem dX4_init_17 : decode cX4_init 17 = .ok (.putfield 15, 3) := by decide +kernel
theorem dX4_init_20 : decode cX4_init 20 = .ok (.aload_n 0, 1) := by decide +kernel
theorem dX4_init_21 : decode cX4_init 21 = .ok (.bipush 48, 2) := by decide +kernel
theorem dX4_init_23 : decode cX4_init 23 = .ok (.newarray .int, 2) := by decide +kernel
theorem dX4_init_25 : decode cX4_init 25 = .ok (.putfield 18, 3) := by decide +kernel
theorem dX4_init_28 : decode cX4_init 28 = .ok (.aload_n 0, 1) := by decide +kernel
theorem dX4_init_29 : decode cX4_init 29 = .ok (.iconst 4, 1) := by decide +kernel
theorem dX4_init_30 : decode cX4_init 30 = .ok (.newarray .int, 2) := by decide +kernel
theorem dX4_init_32 : decode cX4_init 32 = .ok (.putfield 21, 3) := by decide +kernel
theorem dX4_init_35 : decode cX4_init 35 = .ok (.aload_n 0, 1) := by decide +kernel
theorem dX4_init_36 : decode cX4_init 36 = .ok (.bipush 10, 2) := by decide +kernel
theorem dX4_init_38 : decode cX4_init 38 = .ok (.newarray .int, 2) := by decide +kernel
theorem dX4_init_40 : decode cX4_init 40 = .ok (.putfield 24, 3) := by decide +kernel
theorem dX4_init_43 : decode cX4_init 43 = .ok (.aload_n 0, 1) := by decide +kernel
theorem dX4_init_44 : decode cX4_init 44 = .ok (.bipush 24, 2) := by decide +kernel
theorem dX4_init_46 : decode cX4_init 46 = .ok (.putfield 27, 3) := by decide +kernel
theorem dX4_init_49 : decode cX4_init 49 = .ok (.aload_n 0, 1) := by decide +kernel
theorem dX4_init_50 : decode cX4_init 50 = .ok (.iconst 0, 1) := by decide +kernel
theorem dX4_init_51 : decode cX4_init 51 = .ok (.putfield 31, 3) := by decide +kernel
theorem dX4_init_54 : decode cX4_init 54 = .ok (.aload_n 0, 1) := by decide +kernel
theorem dX4_init_55 : decode cX4_init 55 = .ok (.iconst 0, 1) := by decide +kernel
theorem dX4_init_56 : decode cX4_init 56 = .ok (.putfield 34, 3) := by decide +kernel
theorem dX4_init_59 : decode cX4_init 59 = .ok (.aload_n 0, 1) := by decide +kernel
theorem dX4_init_60 : decode cX4_init 60 = .ok (.getfield 9, 3) := by decide +kernel
theorem dX4_init_63 : decode cX4_init 63 = .ok (.iconst 3, 1) := by decide +kernel
theorem dX4_init_64 : decode cX4_init 64 = .ok (.invokestatic 37, 3) := by decide +kernel
theorem dX4_init_67 : decode cX4_init 67 = .ok (.return_, 1) := by decide +kernel
theorem dX4_takeFrom_0 : decode cX4_takeFrom 0 = .ok (.aload_n 1, 1) := by decide +kernel
theorem dX4_takeFrom_1 : decode cX4_takeFrom 1 = .ok (.getfield 9, 3) := by decide +kernel
theorem dX4_takeFrom_4 : decode cX4_takeFrom 4 = .ok (.iconst 0, 1) := by decide +kernel
theorem dX4_takeFrom_5 : decode cX4_takeFrom 5 = .ok (.aload_n 0, 1) := by decide +kernel
theorem dX4_takeFrom_6 : decode cX4_takeFrom 6 = .ok (.getfield 9, 3) := by decide +kernel
theorem dX4_takeFrom_9 : decode cX4_takeFrom 9 = .ok (.iconst 0, 1) := by decide +kernel
theorem dX4_takeFrom_10 : decode cX4_takeFrom 10 = .ok (.bipush 48, 2) := by decide +kernel
theorem dX4_takeFrom_12 : decode cX4_takeFrom 12 = .ok (.invokestatic 43, 3) := by decide +kernel
theorem dX4_takeFrom_15 : decode cX4_takeFrom 15 = .ok (.aload_n 1, 1) := by decide +kernel
theorem dX4_takeFrom_16 : decode cX4_takeFrom 16 = .ok (.getfield 15, 3) := by decide +kernel
theorem dX4_takeFrom_19 : decode cX4_takeFrom 19 = .ok (.iconst 0, 1) := by decide +kernel
theorem dX4_takeFrom_20 : decode cX4_takeFrom 20 = .ok (.aload_n 0, 1) := by decide +kernel
theorem dX4_takeFrom_21 : decode cX4_takeFrom 21 = .ok (.getfield 15, 3) := by decide +kernel
theorem dX4_takeFrom_24 : decode cX4_takeFrom 24 = .ok (.iconst 0, 1) := by decide +kernel
theorem dX4_takeFrom_25 : decode cX4_takeFrom 25 = .ok (.bipush 48, 2) := by decide +kernel
theorem dX4_takeFrom_27 : decode cX4_takeFrom 27 = .ok (.invokestatic 43, 3) := by decide +kernel
theorem dX4_takeFrom_30 : decode cX4_takeFrom 30 = .ok (.aload_n 1, 1) := by decide +kernel
theorem dX4_takeFrom_31 : decode cX4_takeFrom 31 = .ok (.getfield 18, 3) := by decide +kernel
theorem dX4_takeFrom_34 : decode cX4_takeFrom 34 = .ok (.iconst 0, 1) := by decide +kernel
theorem dX4_takeFrom_35 : decode cX4_takeFrom 35 = .ok (.aload_n 0, 1) := by decide +kernel
theorem dX4_takeFrom_36 : decode cX4_takeFrom 36 = .ok (.getfield 18, 3) := by decide +kernel
theorem dX4_takeFrom_39 : decode cX4_takeFrom 39 = .ok (.iconst 0, 1) := by decide +kernel
theorem dX4_takeFrom_40 : decode cX4_takeFrom 40 = .ok (.bipush 48, 2) := by decide +kernel
theorem dX4_takeFrom_42 : decode cX4_takeFrom 42 = .ok (.invokestatic 43, 3) := by decide +kernel
theorem dX4_takeFrom_45 : decode cX4_takeFrom 45 = .ok (.aload_n 1, 1) := by decide +kernel
theorem dX4_takeFrom_46 : decode cX4_takeFrom 46 = .ok (.getfield 21, 3) := by decide +kernel
theorem dX4_takeFrom_49 : decode cX4_takeFrom 49 = .ok (.iconst 0, 1) := by decide +kernel
theorem dX4_takeFrom_50 : decode cX4_takeFrom 50 = .ok (.aload_n 0, 1) := by decide +kernel
theorem dX4_takeFrom_51 : decode cX4_takeFrom 51 = .ok (.getfield 21, 3) := by decide +kernel
theorem dX4_takeFrom_54 : decode cX4_takeFrom 54 = .ok (.iconst 0, 1) := by decide +kernel
theorem dX4_takeFrom_55 : decode cX4_takeFrom 55 = .ok (.iconst 4, 1) := by decide +kernel
theorem dX4_takeFrom_56 : decode cX4_takeFrom 56 = .ok (.invokestatic 43, 3) := by decide +kernel
theorem dX4_takeFrom_59 : decode cX4_takeFrom 59 = .ok (.iconst 0, 1) := by decide +kernel
theorem dX4_takeFrom_60 : decode cX4_takeFrom 60 = .ok (.istore_n 3, 1) := by decide +kernel
theorem dX4_takeFrom_61 : decode cX4_takeFrom 61 = .ok (.iload_n 3, 1) := by decide +kernel
theorem dX4_takeFrom_62 : decode cX4_takeFrom 62 = .ok (.iload_n 2, 1) := by decide +kernel
theorem dX4_takeFrom_63 : decode cX4_takeFrom 63 = .ok (.if_icmp .ge 27, 3) := by decide +kernel
theorem dX4_takeFrom_66 : decode cX4_takeFrom 66 = .ok (.iload_n 3, 1) := by decide +kernel
theorem dX4_takeFrom_67 : decode cX4_takeFrom 67 = .ok (.bipush 10, 2) := by decide +kernel
theorem dX4_takeFrom_69 : decode cX4_takeFrom 69 = .ok (.if_icmp .ge 21, 3) := by decide +kernel
theorem dX4_takeFrom_72 : decode cX4_takeFrom 72 = .ok (.aload_n 0, 1) := by decide +kernel
theorem dX4_takeFrom_73 : decode cX4_takeFrom 73 = .ok (.getfield 24, 3) := by decide +kernel
theorem dX4_takeFrom_76 : decode cX4_takeFrom 76 = .ok (.iload_n 3, 1) := by decide +kernel
theorem dX4_takeFrom_77 : decode cX4_takeFrom 77 = .ok (.aload_n 1, 1) := by decide +kernel
theorem dX4_takeFrom_78 : decode cX4_takeFrom 78 = .ok (.getfield 24, 3) := by decide +kernel
theorem dX4_takeFrom_81 : decode cX4_takeFrom 81 = .ok (.iload_n 3, 1) := by decide +kernel
theorem dX4_takeFrom_82 : decode cX4_takeFrom 82 = .ok (.iaload, 1) := by decide +kernel
theorem dX4_takeFrom_83 : decode cX4_takeFrom 83 = .ok (.iastore, 1) := by decide +kernel
theorem dX4_takeFrom_84 : decode cX4_takeFrom 84 = .ok (.iinc 3 1, 3) := by decide +kernel
theorem dX4_takeFrom_87 : decode cX4_takeFrom 87 = .ok (.goto (-26), 3) := by decide +kernel
theorem dX4_takeFrom_90 : decode cX4_takeFrom 90 = .ok (.aload_n 0, 1) := by decide +kernel
theorem dX4_takeFrom_91 : decode cX4_takeFrom 91 = .ok (.aload_n 1, 1) := by decide +kernel
theorem dX4_takeFrom_92 : decode cX4_takeFrom 92 = .ok (.getfield 27, 3) := by decide +kernel
theorem dX4_takeFrom_95 : decode cX4_takeFrom 95 = .ok (.putfield 27, 3) := by decide +kernel
theorem dX4_takeFrom_98 : decode cX4_takeFrom 98 = .ok (.aload_n 0, 1) := by decide +kernel
theorem dX4_takeFrom_99 : decode cX4_takeFrom 99 = .ok (.aload_n 1, 1) := by decide +kernel
theorem dX4_takeFrom_100 : decode cX4_takeFrom 100 = .ok (.getfield 31, 3) := by decide +kernel
theorem dX4_takeFrom_103 : decode cX4_takeFrom 103 = .ok (.putfield 31, 3) := by decide +kernel
theorem dX4_takeFrom_106 : decode cX4_takeFrom 106 = .ok (.aload_n 0, 1) := by decide +kernel
theorem dX4_takeFrom_107 : decode cX4_takeFrom 107 = .ok (.aload_n 1, 1) := by decide +kernel
theorem dX4_takeFrom_108 : decode cX4_takeFrom 108 = .ok (.getfield 34, 3) := by decide +kernel
theorem dX4_takeFrom_111 : decode cX4_takeFrom 111 = .ok (.putfield 34, 3) := by decide +kernel
theorem dX4_takeFrom_114 : decode cX4_takeFrom 114 = .ok (.return_, 1) := by decide +kernel
theorem dX5_init_0 : decode cX5_init 0 = .ok (.aload_n 0, 1) := by decide +kernel
theorem dX5_init_1 : decode cX5_init 1 = .ok (.invokespecial 3, 3) := by decide +kernel
theorem dX5_init_4 : decode cX5_init 4 = .ok (.aload_n 0, 1) := by decide +kernel
theorem dX5_init_5 : decode cX5_init 5 = .ok (.sipush 160, 3) := by decide +kernel
theorem dX5_init_8 : decode cX5_init 8 = .ok (.newarray .char, 2) := by decide +kernel
theorem dX5_init_10 : decode cX5_init 10 = .ok (.putfield 9, 3) := by decide +kernel
theorem dX5_init_13 : decode cX5_init 13 = .ok (.aload_n 0, 1) := by decide +kernel
theorem dX5_init_14 : decode cX5_init 14 = .ok (.sipush 160, 3) := by decide +kernel
theorem dX5_init_17 : decode cX5_init 17 = .ok (.newarray .int, 2) := by decide +kernel
theorem dX5_init_19 : decode cX5_init 19 = .ok (.putfield 15, 3) := by decide +kernel
theorem dX5_init_22 : decode cX5_init 22 = .ok (.aload_n 0, 1) := by decide +kernel
theorem dX5_init_23 : decode cX5_init 23 = .ok (.iconst 0, 1) := by decide +kernel
theorem dX5_init_24 : decode cX5_init 24 = .ok (.putfield 19, 3) := by decide +kernel
theorem dX5_init_27 : decode cX5_init 27 = .ok (.return_, 1) := by decide +kernel
theorem dX5_put_0 : decode cX5_put 0 = .ok (.aload_n 0, 1) := by decide +kernel
theorem dX5_put_1 : decode cX5_put 1 = .ok (.getfield 19, 3) := by decide +kernel
theorem dX5_put_4 : decode cX5_put 4 = .ok (.sipush 160, 3) := by decide +kernel
theorem dX5_put_7 : decode cX5_put 7 = .ok (.if_icmp .ge 24, 3) := by decide +kernel
theorem dX5_put_10 : decode cX5_put 10 = .ok (.aload_n 0, 1) := by decide +kernel
theorem dX5_put_11 : decode cX5_put 11 = .ok (.getfield 9, 3) := by decide +kernel
theorem dX5_put_14 : decode cX5_put 14 = .ok (.aload_n 0, 1) := by decide +kernel
theorem dX5_put_15 : decode cX5_put 15 = .ok (.getfield 19, 3) := by decide +kernel
theorem dX5_put_18 : decode cX5_put 18 = .ok (.iload_n 1, 1) := by decide +kernel
theorem dX5_put_19 : decode cX5_put 19 = .ok (.i2c, 1) := by decide +kernel
theorem dX5_put_20 : decode cX5_put 20 = .ok (.castore, 1) := by decide +kernel
theorem dX5_put_21 : decode cX5_put 21 = .ok (.aload_n 0, 1) := by decide +kernel
theorem dX5_put_22 : decode cX5_put 22 = .ok (.dup, 1) := by decide +kernel
theorem dX5_put_23 : decode cX5_put 23 = .ok (.getfield 19, 3) := by decide +kernel
theorem dX5_put_26 : decode cX5_put 26 = .ok (.iconst 1, 1) := by decide +kernel
theorem dX5_put_27 : decode cX5_put 27 = .ok (.iadd, 1) := by decide +kernel
theorem dX5_put_28 : decode cX5_put 28 = .ok (.putfield 19, 3) := by decide +kernel
theorem dX5_put_31 : decode cX5_put 31 = .ok (.return_, 1) := by decide +kernel
theorem dX5_clear_0 : decode cX5_clear 0 = .ok (.aload_n 0, 1) := by decide +kernel
theorem dX5_clear_1 : decode cX5_clear 1 = .ok (.iconst 0, 1) := by decide +kernel
theorem dX5_clear_2 : decode cX5_clear 2 = .ok (.putfield 19, 3) := by decide +kernel
theorem dX5_clear_5 : decode cX5_clear 5 = .ok (.return_, 1) := by decide +kernel
theorem dX5_compiled_0 : decode cX5_compiled 0 = .ok (.aload_n 0, 1) := by decide +kernel
theorem dX5_compiled_1 : decode cX5_compiled 1 = .ok (.iconst 0, 1) := by decide +kernel
theorem dX5_compiled_2 : decode cX5_compiled 2 = .ok (.putfield 23, 3) := by decide +kernel
theorem dX5_compiled_5 : decode cX5_compiled 5 = .ok (.aload_n 0, 1) := by decide +kernel
theorem dX5_compiled_6 : decode cX5_compiled 6 = .ok (.iconst 0, 1) := by decide +kernel
theorem dX5_compiled_7 : decode cX5_compiled 7 = .ok (.putfield 26, 3) := by decide +kernel
theorem dX5_compiled_10 : decode cX5_compiled 10 = .ok (.aload_n 0, 1) := by decide +kernel
theorem dX5_compiled_11 : decode cX5_compiled 11 = .ok (.invokevirtual 29, 3) := by decide +kernel
theorem dX5_compiled_14 : decode cX5_compiled 14 = .ok (.iconst 3, 1) := by decide +kernel
theorem dX5_compiled_15 : decode cX5_compiled 15 = .ok (.newarray .int, 2) := by decide +kernel
theorem dX5_compiled_17 : decode cX5_compiled 17 = .ok (.astore_n 1, 1) := by decide +kernel
theorem dX5_compiled_18 : decode cX5_compiled 18 = .ok (.iconst 0, 1) := by decide +kernel
theorem dX5_compiled_19 : decode cX5_compiled 19 = .ok (.istore_n 2, 1) := by decide +kernel
theorem dX5_compiled_20 : decode cX5_compiled 20 = .ok (.iload_n 2, 1) := by decide +kernel
theorem dX5_compiled_21 : decode cX5_compiled 21 = .ok (.iconst 3, 1) := by decide +kernel
theorem dX5_compiled_22 : decode cX5_compiled 22 = .ok (.if_icmp .ge 43, 3) := by decide +kernel
theorem dX5_compiled_25 : decode cX5_compiled 25 = .ok (.aload_n 0, 1) := by decide +kernel
theorem dX5_compiled_26 : decode cX5_compiled 26 = .ok (.iload_n 2, 1) := by decide +kernel
theorem dX5_compiled_27 : decode cX5_compiled 27 = .ok (.invokevirtual 32, 3) := by decide +kernel
theorem dX5_compiled_30 : decode cX5_compiled 30 = .ok (.ifCond .eq 20, 3) := by decide +kernel
theorem dX5_compiled_33 : decode cX5_compiled 33 = .ok (.aload_n 0, 1) := by decide +kernel
theorem dX5_compiled_34 : decode cX5_compiled 34 = .ok (.iconst 0, 1) := by decide +kernel
theorem dX5_compiled_35 : decode cX5_compiled 35 = .ok (.invokevirtual 36, 3) := by decide +kernel
theorem dX5_compiled_38 : decode cX5_compiled 38 = .ok (.ifCond .eq 12, 3) := by decide +kernel
theorem dX5_compiled_41 : decode cX5_compiled 41 = .ok (.aload_n 0, 1) := by decide +kernel
theorem dX5_compiled_42 : decode cX5_compiled 42 = .ok (.bipush 59, 2) := by decide +kernel
theorem dX5_compiled_44 : decode cX5_compiled 44 = .ok (.invokevirtual 32, 3) := by decide +kernel
theorem dX5_compiled_47 : decode cX5_compiled 47 = .ok (.ifCond .ne 5, 3) := by decide +kernel
theorem dX5_compiled_50 : decode cX5_compiled 50 = .ok (.aconst_null, 1) := by decide +kernel
theorem dX5_compiled_51 : decode cX5_compiled 51 = .ok (.areturn, 1) := by decide +kernel
theorem dX5_compiled_52 : decode cX5_compiled 52 = .ok (.aload_n 1, 1) := by decide +kernel
theorem dX5_compiled_53 : decode cX5_compiled 53 = .ok (.iload_n 2, 1) := by decide +kernel
theorem dX5_compiled_54 : decode cX5_compiled 54 = .ok (.aload_n 0, 1) := by decide +kernel
theorem dX5_compiled_55 : decode cX5_compiled 55 = .ok (.getfield 26, 3) := by decide +kernel
theorem dX5_compiled_58 : decode cX5_compiled 58 = .ok (.iastore, 1) := by decide +kernel
theorem dX5_compiled_59 : decode cX5_compiled 59 = .ok (.iinc 2 1, 3) := by decide +kernel
theorem dX5_compiled_62 : decode cX5_compiled 62 = .ok (.goto (-42), 3) := by decide +kernel
theorem dX5_compiled_65 : decode cX5_compiled 65 = .ok (.aload_n 0, 1) := by decide +kernel
theorem dX5_compiled_66 : decode cX5_compiled 66 = .ok (.getfield 39, 3) := by decide +kernel
theorem dX5_compiled_69 : decode cX5_compiled 69 = .ok (.bipush 9, 2) := by decide +kernel
theorem dX5_compiled_71 : decode cX5_compiled 71 = .ok (.if_icmp .ne 25, 3) := by decide +kernel
theorem dX5_compiled_74 : decode cX5_compiled 74 = .ok (.new 42, 3) := by decide +kernel
theorem dX5_compiled_77 : decode cX5_compiled 77 = .ok (.dup, 1) := by decide +kernel
theorem dX5_compiled_78 : decode cX5_compiled 78 = .ok (.aload_n 0, 1) := by decide +kernel
theorem dX5_compiled_79 : decode cX5_compiled 79 = .ok (.getfield 15, 3) := by decide +kernel
theorem dX5_compiled_82 : decode cX5_compiled 82 = .ok (.aload_n 0, 1) := by decide +kernel
theorem dX5_compiled_83 : decode cX5_compiled 83 = .ok (.getfield 26, 3) := by decide +kernel
theorem dX5_compiled_86 : decode cX5_compiled 86 = .ok (.invokestatic 44, 3) := by decide +kernel
theorem dX5_compiled_89 : decode cX5_compiled 89 = .ok (.aload_n 1, 1) := by decide +kernel
theorem dX5_compiled_90 : decode cX5_compiled 90 = .ok (.invokespecial 50, 3) := by decide +kernel
theorem dX5_compiled_93 : decode cX5_compiled 93 = .ok (.goto 4, 3) := by decide +kernel
theorem dX5_compiled_96 : decode cX5_compiled 96 = .ok (.aconst_null, 1) := by decide +kernel
theorem dX5_compiled_97 : decode cX5_compiled 97 = .ok (.areturn, 1) := by decide +kernel
theorem dX5_either_0 : decode cX5_either 0 = .ok (.aload_n 0, 1) := by decide +kernel
theorem dX5_either_1 : decode cX5_either 1 = .ok (.iload_n 1, 1) := by decide +kernel
theorem dX5_either_2 : decode cX5_either 2 = .ok (.invokevirtual 53, 3) := by decide +kernel
theorem dX5_either_5 : decode cX5_either 5 = .ok (.istore_n 2, 1) := by decide +kernel
theorem dX5_either_6 : decode cX5_either 6 = .ok (.iconst 0, 1) := by decide +kernel
theorem dX5_either_7 : decode cX5_either 7 = .ok (.istore_n 3, 1) := by decide +kernel
theorem dX5_either_8 : decode cX5_either 8 = .ok (.iload_n 3, 1) := by decide +kernel
theorem dX5_either_9 : decode cX5_either 9 = .ok (.sipush 160, 3) := by decide +kernel
theorem dX5_either_12 : decode cX5_either 12 = .ok (.if_icmp .ge 38, 3) := by decide +kernel
theorem dX5_either_15 : decode cX5_either 15 = .ok (.iload_n 2, 1) := by decide +kernel
theorem dX5_either_16 : decode cX5_either 16 = .ok (.ifCond .eq 34, 3) := by decide +kernel
theorem dX5_either_19 : decode cX5_either 19 = .ok (.aload_n 0, 1) := by decide +kernel
theorem dX5_either_20 : decode cX5_either 20 = .ok (.getfield 39, 3) := by decide +kernel
theorem dX5_either_23 : decode cX5_either 23 = .ok (.iconst 3, 1) := by decide +kernel
theorem dX5_either_24 : decode cX5_either 24 = .ok (.if_icmp .ne 26, 3) := by decide +kernel
theorem dX5_either_27 : decode cX5_either 27 = .ok (.aload_n 0, 1) := by decide +kernel
theorem dX5_either_28 : decode cX5_either 28 = .ok (.invokevirtual 29, 3) := by decide +kernel
theorem dX5_either_31 : decode cX5_either 31 = .ok (.aload_n 0, 1) := by decide +kernel
theorem dX5_either_32 : decode cX5_either 32 = .ok (.iload_n 1, 1) := by decide +kernel
theorem dX5_either_33 : decode cX5_either 33 = .ok (.invokevirtual 53, 3) := by decide +kernel
theorem dX5_either_36 : decode cX5_either 36 = .ok (.istore_n 2, 1) := by decide +kernel
theorem dX5_either_37 : decode cX5_either 37 = .ok (.aload_n 0, 1) := by decide +kernel
theorem dX5_either_38 : decode cX5_either 38 = .ok (.iconst 3, 1) := by decide +kernel
theorem dX5_either_39 : decode cX5_either 39 = .ok (.iconst 0, 1) := by decide +kernel
theorem dX5_either_40 : decode cX5_either 40 = .ok (.invokevirtual 56, 3) := by decide +kernel
theorem dX5_either_43 : decode cX5_either 43 = .ok (.pop, 1) := by decide +kernel
theorem dX5_either_44 : decode cX5_either 44 = .ok (.iinc 3 1, 3) := by decide +kernel
theorem dX5_either_47 : decode cX5_either 47 = .ok (.goto (-39), 3) := by decide +kernel
theorem dX5_either_50 : decode cX5_either 50 = .ok (.iload_n 2, 1) := by decide +kernel
theorem dX5_either_51 : decode cX5_either 51 = .ok (.ireturn, 1) := by decide +kernel
theorem dX5_both_0 : decode cX5_both 0 = .ok (.aload_n 0, 1) := by decide +kernel
theorem dX5_both_1 : decode cX5_both 1 = .ok (.iload_n 1, 1) := by decide +kernel
theorem dX5_both_2 : decode cX5_both 2 = .ok (.invokevirtual 60, 3) := by decide +kernel
theorem dX5_both_5 : decode cX5_both 5 = .ok (.istore_n 2, 1) := by decide +kernel
theorem dX5_both_6 : decode cX5_both 6 = .ok (.iconst 0, 1) := by decide +kernel
theorem dX5_both_7 : decode cX5_both 7 = .ok (.istore_n 3, 1) := by decide +kernel
theorem dX5_both_8 : decode cX5_both 8 = .ok (.iload_n 3, 1) := by decide +kernel
theorem dX5_both_9 : decode cX5_both 9 = .ok (.sipush 160, 3) := by decide +kernel
theorem dX5_both_12 : decode cX5_both 12 = .ok (.if_icmp .ge 38, 3) := by decide +kernel
theorem dX5_both_15 : decode cX5_both 15 = .ok (.iload_n 2, 1) := by decide +kernel
theorem dX5_both_16 : decode cX5_both 16 = .ok (.ifCond .eq 34, 3) := by decide +kernel
theorem dX5_both_19 : decode cX5_both 19 = .ok (.aload_n 0, 1) := by decide +kernel
theorem dX5_both_20 : decode cX5_both 20 = .ok (.getfield 39, 3) := by decide +kernel
theorem dX5_both_23 : decode cX5_both 23 = .ok (.iconst 4, 1) := by decide +kernel
theorem dX5_both_24 : decode cX5_both 24 = .ok (.if_icmp .ne 26, 3) := by decide +kernel
theorem dX5_both_27 : decode cX5_both 27 = .ok (.aload_n 0, 1) := by decide +kernel
theorem dX5_both_28 : decode cX5_both 28 = .ok (.invokevirtual 29, 3) := by decide +kernel
theorem dX5_both_31 : decode cX5_both 31 = .ok (.aload_n 0, 1) := by decide +kernel
theorem dX5_both_32 : decode cX5_both 32 = .ok (.iload_n 1, 1) := by decide +kernel
theorem dX5_both_33 : decode cX5_both 33 = .ok (.invokevirtual 60, 3) := by decide +kernel
theorem dX5_both_36 : decode cX5_both 36 = .ok (.istore_n 2, 1) := by decide +kernel
theorem dX5_both_37 : decode cX5_both 37 = .ok (.aload_n 0, 1) := by decide +kernel
theorem dX5_both_38 : decode cX5_both 38 = .ok (.iconst 4, 1) := by decide +kernel
theorem dX5_both_39 : decode cX5_both 39 = .ok (.iconst 0, 1) := by decide +kernel
theorem dX5_both_40 : decode cX5_both 40 = .ok (.invokevirtual 56, 3) := by decide +kernel
theorem dX5_both_43 : decode cX5_both 43 = .ok (.pop, 1) := by decide +kernel
theorem dX5_both_44 : decode cX5_both 44 = .ok (.iinc 3 1, 3) := by decide +kernel
theorem dX5_both_47 : decode cX5_both 47 = .ok (.goto (-39), 3) := by decide +kernel
theorem dX5_both_50 : decode cX5_both 50 = .ok (.iload_n 2, 1) := by decide +kernel
theorem dX5_both_51 : decode cX5_both 51 = .ok (.ireturn, 1) := by decide +kernel
theorem dX5_negated_0 : decode cX5_negated 0 = .ok (.aload_n 0, 1) := by decide +kernel
theorem dX5_negated_1 : decode cX5_negated 1 = .ok (.getfield 39, 3) := by decide +kernel
theorem dX5_negated_4 : decode cX5_negated 4 = .ok (.iconst 5, 1) := by decide +kernel
theorem dX5_negated_5 : decode cX5_negated 5 = .ok (.if_icmp .ne 36, 3) := by decide +kernel
theorem dX5_negated_8 : decode cX5_negated 8 = .ok (.aload_n 0, 1) := by decide +kernel
theorem dX5_negated_9 : decode cX5_negated 9 = .ok (.iload_n 1, 1) := by decide +kernel
theorem dX5_negated_10 : decode cX5_negated 10 = .ok (.invokevirtual 63, 3) := by decide +kernel
theorem dX5_negated_13 : decode cX5_negated 13 = .ok (.ifCond .eq 26, 3) := by decide +kernel
theorem dX5_negated_16 : decode cX5_negated 16 = .ok (.aload_n 0, 1) := by decide +kernel
theorem dX5_negated_17 : decode cX5_negated 17 = .ok (.iload_n 1, 1) := by decide +kernel
theorem dX5_negated_18 : decode cX5_negated 18 = .ok (.iconst 1, 1) := by decide +kernel
theorem dX5_negated_19 : decode cX5_negated 19 = .ok (.iadd, 1) := by decide +kernel
theorem dX5_negated_20 : decode cX5_negated 20 = .ok (.invokevirtual 60, 3) := by decide +kernel
theorem dX5_negated_23 : decode cX5_negated 23 = .ok (.ifCond .eq 16, 3) := by decide +kernel
theorem dX5_negated_26 : decode cX5_negated 26 = .ok (.aload_n 0, 1) := by decide +kernel
theorem dX5_negated_27 : decode cX5_negated 27 = .ok (.iconst 5, 1) := by decide +kernel
theorem dX5_negated_28 : decode cX5_negated 28 = .ok (.iconst 0, 1) := by decide +kernel
theorem dX5_negated_29 : decode cX5_negated 29 = .ok (.invokevirtual 56, 3) := by decide +kernel
theorem dX5_negated_32 : decode cX5_negated 32 = .ok (.ifCond .eq 7, 3) := by decide +kernel
theorem dX5_negated_35 : decode cX5_negated 35 = .ok (.iconst 1, 1) := by decide +kernel
theorem dX5_negated_36 : decode cX5_negated 36 = .ok (.goto 4, 3) := by decide +kernel
theorem dX5_negated_39 : decode cX5_negated 39 = .ok (.iconst 0, 1) := by decide +kernel
theorem dX5_negated_40 : decode cX5_negated 40 = .ok (.ireturn, 1) := by decide +kernel
theorem dX5_negated_41 : decode cX5_negated 41 = .ok (.aload_n 0, 1) := by decide +kernel
theorem dX5_negated_42 : decode cX5_negated 42 = .ok (.iload_n 1, 1) := by decide +kernel
theorem dX5_negated_43 : decode cX5_negated 43 = .ok (.invokevirtual 66, 3) := by decide +kernel
theorem dX5_negated_46 : decode cX5_negated 46 = .ok (.ifCond .ne 5, 3) := by decide +kernel
theorem dX5_negated_49 : decode cX5_negated 49 = .ok (.iconst 0, 1) := by decide +kernel
theorem dX5_negated_50 : decode cX5_negated 50 = .ok (.ireturn, 1) := by decide +kernel
theorem dX5_negated_51 : decode cX5_negated 51 = .ok (.aload_n 0, 1) := by decide +kernel
theorem dX5_negated_52 : decode cX5_negated 52 = .ok (.getfield 39, 3) := by decide +kernel
theorem dX5_negated_55 : decode cX5_negated 55 = .ok (.bipush 60, 2) := by decide +kernel
theorem dX5_negated_57 : decode cX5_negated 57 = .ok (.if_icmp .eq 14, 3) := by decide +kernel
theorem dX5_negated_60 : decode cX5_negated 60 = .ok (.aload_n 0, 1) := by decide +kernel
theorem dX5_negated_61 : decode cX5_negated 61 = .ok (.getfield 39, 3) := by decide +kernel
theorem dX5_negated_64 : decode cX5_negated 64 = .ok (.bipush 61, 2) := by decide +kernel
theorem dX5_negated_66 : decode cX5_negated 66 = .ok (.if_icmp .eq 5, 3) := by decide +kernel
theorem dX5_negated_69 : decode cX5_negated 69 = .ok (.iconst 1, 1) := by decide +kernel
theorem dX5_negated_70 : decode cX5_negated 70 = .ok (.ireturn, 1) := by decide +kernel
theorem dX5_negated_71 : decode cX5_negated 71 = .ok (.aload_n 0, 1) := by decide +kernel
theorem dX5_negated_72 : decode cX5_negated 72 = .ok (.getfield 39, 3) := by decide +kernel
theorem dX5_negated_75 : decode cX5_negated 75 = .ok (.istore_n 2, 1) := by decide +kernel
theorem dX5_negated_76 : decode cX5_negated 76 = .ok (.aload_n 0, 1) := by decide +kernel
theorem dX5_negated_77 : decode cX5_negated 77 = .ok (.invokevirtual 29, 3) := by decide +kernel
theorem dX5_negated_80 : decode cX5_negated 80 = .ok (.aload_n 0, 1) := by decide +kernel
theorem dX5_negated_81 : decode cX5_negated 81 = .ok (.iload_n 1, 1) := by decide +kernel
theorem dX5_negated_82 : decode cX5_negated 82 = .ok (.invokevirtual 66, 3) := by decide +kernel
theorem dX5_negated_85 : decode cX5_negated 85 = .ok (.ifCond .eq 16, 3) := by decide +kernel
theorem dX5_negated_88 : decode cX5_negated 88 = .ok (.aload_n 0, 1) := by decide +kernel
theorem dX5_negated_89 : decode cX5_negated 89 = .ok (.iload_n 2, 1) := by decide +kernel
theorem dX5_negated_90 : decode cX5_negated 90 = .ok (.iconst 0, 1) := by decide +kernel
theorem dX5_negated_91 : decode cX5_negated 91 = .ok (.invokevirtual 56, 3) := by decide +kernel
theorem dX5_negated_94 : decode cX5_negated 94 = .ok (.ifCond .eq 7, 3) := by decide +kernel
theorem dX5_negated_97 : decode cX5_negated 97 = .ok (.iconst 1, 1) := by decide +kernel
theorem dX5_negated_98 : decode cX5_negated 98 = .ok (.goto 4, 3) := by decide +kernel
theorem dX5_negated_101 : decode cX5_negated 101 = .ok (.iconst 0, 1) := by decide +kernel
theorem dX5_negated_102 : decode cX5_negated 102 = .ok (.ireturn, 1) := by decide +kernel
theorem dX5_sum_0 : decode cX5_sum 0 = .ok (.aload_n 0, 1) := by decide +kernel
theorem dX5_sum_1 : decode cX5_sum 1 = .ok (.iload_n 1, 1) := by decide +kernel
theorem dX5_sum_2 : decode cX5_sum 2 = .ok (.invokevirtual 69, 3) := by decide +kernel
theorem dX5_sum_5 : decode cX5_sum 5 = .ok (.istore_n 2, 1) := by decide +kernel
theorem dX5_sum_6 : decode cX5_sum 6 = .ok (.iconst 0, 1) := by decide +kernel
theorem dX5_sum_7 : decode cX5_sum 7 = .ok (.istore_n 3, 1) := by decide +kernel
theorem dX5_sum_8 : decode cX5_sum 8 = .ok (.iload_n 3, 1) := by decide +kernel
theorem dX5_sum_9 : decode cX5_sum 9 = .ok (.sipush 160, 3) := by decide +kernel
theorem dX5_sum_12 : decode cX5_sum 12 = .ok (.if_icmp .ge 55, 3) := by decide +kernel
theorem dX5_sum_15 : decode cX5_sum 15 = .ok (.iload_n 2, 1) := by decide +kernel
theorem dX5_sum_16 : decode cX5_sum 16 = .ok (.ifCond .eq 51, 3) := by decide +kernel
theorem dX5_sum_19 : decode cX5_sum 19 = .ok (.aload_n 0, 1) := by decide +kernel
theorem dX5_sum_20 : decode cX5_sum 20 = .ok (.getfield 39, 3) := by decide +kernel
theorem dX5_sum_23 : decode cX5_sum 23 = .ok (.bipush 43, 2) := by decide +kernel
theorem dX5_sum_25 : decode cX5_sum 25 = .ok (.if_icmp .eq 12, 3) := by decide +kernel
theorem dX5_sum_28 : decode cX5_sum 28 = .ok (.aload_n 0, 1) := by decide +kernel
theorem dX5_sum_29 : decode cX5_sum 29 = .ok (.getfield 39, 3) := by decide +kernel
theorem dX5_sum_32 : decode cX5_sum 32 = .ok (.bipush 45, 2) := by decide +kernel
theorem dX5_sum_34 : decode cX5_sum 34 = .ok (.if_icmp .ne 33, 3) := by decide +kernel
theorem dX5_sum_37 : decode cX5_sum 37 = .ok (.aload_n 0, 1) := by decide +kernel
theorem dX5_sum_38 : decode cX5_sum 38 = .ok (.getfield 39, 3) := by decide +kernel
theorem dX5_sum_41 : decode cX5_sum 41 = .ok (.istore 4, 2) := by decide +kernel
theorem dX5_sum_43 : decode cX5_sum 43 = .ok (.aload_n 0, 1) := by decide +kernel
theorem dX5_sum_44 : decode cX5_sum 44 = .ok (.invokevirtual 29, 3) := by decide +kernel
theorem dX5_sum_47 : decode cX5_sum 47 = .ok (.aload_n 0, 1) := by decide +kernel
theorem dX5_sum_48 : decode cX5_sum 48 = .ok (.iload_n 1, 1) := by decide +kernel
theorem dX5_sum_49 : decode cX5_sum 49 = .ok (.invokevirtual 69, 3) := by decide +kernel
theorem dX5_sum_52 : decode cX5_sum 52 = .ok (.istore_n 2, 1) := by decide +kernel
theorem dX5_sum_53 : decode cX5_sum 53 = .ok (.aload_n 0, 1) := by decide +kernel
theorem dX5_sum_54 : decode cX5_sum 54 = .ok (.iload 4, 2) := by decide +kernel
theorem dX5_sum_56 : decode cX5_sum 56 = .ok (.iconst 0, 1) := by decide +kernel
theorem dX5_sum_57 : decode cX5_sum 57 = .ok (.invokevirtual 56, 3) := by decide +kernel
theorem dX5_sum_60 : decode cX5_sum 60 = .ok (.pop, 1) := by decide +kernel
theorem dX5_sum_61 : decode cX5_sum 61 = .ok (.iinc 3 1, 3) := by decide +kernel
theorem dX5_sum_64 : decode cX5_sum 64 = .ok (.goto (-56), 3) := by decide +kernel
theorem dX5_sum_67 : decode cX5_sum 67 = .ok (.iload_n 2, 1) := by decide +kernel
theorem dX5_sum_68 : decode cX5_sum 68 = .ok (.ireturn, 1) := by decide +kernel
theorem dX5_product_0 : decode cX5_product 0 = .ok (.aload_n 0, 1) := by decide +kernel
theorem dX5_product_1 : decode cX5_product 1 = .ok (.iload_n 1, 1) := by decide +kernel
theorem dX5_product_2 : decode cX5_product 2 = .ok (.invokevirtual 72, 3) := by decide +kernel
theorem dX5_product_5 : decode cX5_product 5 = .ok (.istore_n 2, 1) := by decide +kernel
theorem dX5_product_6 : decode cX5_product 6 = .ok (.iconst 0, 1) := by decide +kernel
theorem dX5_product_7 : decode cX5_product 7 = .ok (.istore_n 3, 1) := by decide +kernel
theorem dX5_product_8 : decode cX5_product 8 = .ok (.iload_n 3, 1) := by decide +kernel
theorem dX5_product_9 : decode cX5_product 9 = .ok (.sipush 160, 3) := by decide +kernel
theorem dX5_product_12 : decode cX5_product 12 = .ok (.if_icmp .ge 40, 3) := by decide +kernel
theorem dX5_product_15 : decode cX5_product 15 = .ok (.iload_n 2, 1) := by decide +kernel
theorem dX5_product_16 : decode cX5_product 16 = .ok (.ifCond .eq 36, 3) := by decide +kernel
theorem dX5_product_19 : decode cX5_product 19 = .ok (.aload_n 0, 1) := by decide +kernel
theorem dX5_product_20 : decode cX5_product 20 = .ok (.getfield 39, 3) := by decide +kernel
theorem dX5_product_23 : decode cX5_product 23 = .ok (.bipush 42, 2) := by decide +kernel
theorem dX5_product_25 : decode cX5_product 25 = .ok (.if_icmp .ne 27, 3) := by decide +kernel
theorem dX5_product_28 : decode cX5_product 28 = .ok (.aload_n 0, 1) := by decide +kernel
theorem dX5_product_29 : decode cX5_product 29 = .ok (.invokevirtual 29, 3) := by decide +kernel
theorem dX5_product_32 : decode cX5_product 32 = .ok (.aload_n 0, 1) := by decide +kernel
theorem dX5_product_33 : decode cX5_product 33 = .ok (.iload_n 1, 1) := by decide +kernel
theorem dX5_product_34 : decode cX5_product 34 = .ok (.invokevirtual 72, 3) := by decide +kernel
theorem dX5_product_37 : decode cX5_product 37 = .ok (.istore_n 2, 1) := by decide +kernel
theorem dX5_product_38 : decode cX5_product 38 = .ok (.aload_n 0, 1) := by decide +kernel
theorem dX5_product_39 : decode cX5_product 39 = .ok (.bipush 42, 2) := by decide +kernel
theorem dX5_product_41 : decode cX5_product 41 = .ok (.iconst 0, 1) := by decide +kernel
theorem dX5_product_42 : decode cX5_product 42 = .ok (.invokevirtual 56, 3) := by decide +kernel
theorem dX5_product_45 : decode cX5_product 45 = .ok (.pop, 1) := by decide +kernel
theorem dX5_product_46 : decode cX5_product 46 = .ok (.iinc 3 1, 3) := by decide +kernel
theorem dX5_product_49 : decode cX5_product 49 = .ok (.goto (-41), 3) := by decide +kernel
theorem dX5_product_52 : decode cX5_product 52 = .ok (.iload_n 2, 1) := by decide +kernel
theorem dX5_product_53 : decode cX5_product 53 = .ok (.ireturn, 1) := by decide +kernel
theorem dX5_one_0 : decode cX5_one 0 = .ok (.aload_n 0, 1) := by decide +kernel
theorem dX5_one_1 : decode cX5_one 1 = .ok (.getfield 39, 3) := by decide +kernel
theorem dX5_one_4 : decode cX5_one 4 = .ok (.bipush 7, 2) := by decide +kernel
theorem dX5_one_6 : decode cX5_one 6 = .ok (.if_icmp .eq 12, 3) := by decide +kernel
theorem dX5_one_9 : decode cX5_one 9 = .ok (.aload_n 0, 1) := by decide +kernel
theorem dX5_one_10 : decode cX5_one 10 = .ok (.getfield 39, 3) := by decide +kernel
theorem dX5_one_13 : decode cX5_one 13 = .ok (.bipush 6, 2) := by decide +kernel
theorem dX5_one_15 : decode cX5_one 15 = .ok (.if_icmp .ne 22, 3) := by decide +kernel
theorem dX5_one_18 : decode cX5_one 18 = .ok (.aload_n 0, 1) := by decide +kernel
theorem dX5_one_19 : decode cX5_one 19 = .ok (.aload_n 0, 1) := by decide +kernel
theorem dX5_one_20 : decode cX5_one 20 = .ok (.getfield 39, 3) := by decide +kernel
theorem dX5_one_23 : decode cX5_one 23 = .ok (.aload_n 0, 1) := by decide +kernel
theorem dX5_one_24 : decode cX5_one 24 = .ok (.getfield 75, 3) := by decide +kernel
theorem dX5_one_27 : decode cX5_one 27 = .ok (.invokevirtual 56, 3) := by decide +kernel
theorem dX5_one_30 : decode cX5_one 30 = .ok (.pop, 1) := by decide +kernel
theorem dX5_one_31 : decode cX5_one 31 = .ok (.aload_n 0, 1) := by decide +kernel
theorem dX5_one_32 : decode cX5_one 32 = .ok (.invokevirtual 29, 3) := by decide +kernel
theorem dX5_one_35 : decode cX5_one 35 = .ok (.iconst 1, 1) := by decide +kernel
theorem dX5_one_36 : decode cX5_one 36 = .ok (.ireturn, 1) := by decide +kernel
theorem dX5_one_37 : decode cX5_one 37 = .ok (.aload_n 0, 1) := by decide +kernel
theorem dX5_one_38 : decode cX5_one 38 = .ok (.getfield 39, 3) := by decide +kernel
theorem dX5_one_41 : decode cX5_one 41 = .ok (.bipush 45, 2) := by decide +kernel
theorem dX5_one_43 : decode cX5_one 43 = .ok (.if_icmp .ne 37, 3) := by decide +kernel
theorem dX5_one_46 : decode cX5_one 46 = .ok (.aload_n 0, 1) := by decide +kernel
theorem dX5_one_47 : decode cX5_one 47 = .ok (.iload_n 1, 1) := by decide +kernel
theorem dX5_one_48 : decode cX5_one 48 = .ok (.invokevirtual 63, 3) := by decide +kernel
theorem dX5_one_51 : decode cX5_one 51 = .ok (.ifCond .eq 27, 3) := by decide +kernel
theorem dX5_one_54 : decode cX5_one 54 = .ok (.aload_n 0, 1) := by decide +kernel
theorem dX5_one_55 : decode cX5_one 55 = .ok (.iload_n 1, 1) := by decide +kernel
theorem dX5_one_56 : decode cX5_one 56 = .ok (.iconst 1, 1) := by decide +kernel
theorem dX5_one_57 : decode cX5_one 57 = .ok (.iadd, 1) := by decide +kernel
theorem dX5_one_58 : decode cX5_one 58 = .ok (.invokevirtual 72, 3) := by decide +kernel
theorem dX5_one_61 : decode cX5_one 61 = .ok (.ifCond .eq 17, 3) := by decide +kernel
theorem dX5_one_64 : decode cX5_one 64 = .ok (.aload_n 0, 1) := by decide +kernel
theorem dX5_one_65 : decode cX5_one 65 = .ok (.bipush 8, 2) := by decide +kernel
theorem dX5_one_67 : decode cX5_one 67 = .ok (.iconst 0, 1) := by decide +kernel
theorem dX5_one_68 : decode cX5_one 68 = .ok (.invokevirtual 56, 3) := by decide +kernel
theorem dX5_one_71 : decode cX5_one 71 = .ok (.ifCond .eq 7, 3) := by decide +kernel
theorem dX5_one_74 : decode cX5_one 74 = .ok (.iconst 1, 1) := by decide +kernel
theorem dX5_one_75 : decode cX5_one 75 = .ok (.goto 4, 3) := by decide +kernel
theorem dX5_one_78 : decode cX5_one 78 = .ok (.iconst 0, 1) := by decide +kernel
theorem dX5_one_79 : decode cX5_one 79 = .ok (.ireturn, 1) := by decide +kernel
theorem dX5_one_80 : decode cX5_one 80 = .ok (.aload_n 0, 1) := by decide +kernel
theorem dX5_one_81 : decode cX5_one 81 = .ok (.getfield 39, 3) := by decide +kernel
theorem dX5_one_84 : decode cX5_one 84 = .ok (.bipush 40, 2) := by decide +kernel
theorem dX5_one_86 : decode cX5_one 86 = .ok (.if_icmp .ne 34, 3) := by decide +kernel
theorem dX5_one_89 : decode cX5_one 89 = .ok (.aload_n 0, 1) := by decide +kernel
theorem dX5_one_90 : decode cX5_one 90 = .ok (.iload_n 1, 1) := by decide +kernel
theorem dX5_one_91 : decode cX5_one 91 = .ok (.invokevirtual 63, 3) := by decide +kernel
theorem dX5_one_94 : decode cX5_one 94 = .ok (.ifCond .eq 26, 3) := by decide +kernel
theorem dX5_one_97 : decode cX5_one 97 = .ok (.aload_n 0, 1) := by decide +kernel
theorem dX5_one_98 : decode cX5_one 98 = .ok (.iload_n 1, 1) := by decide +kernel
theorem dX5_one_99 : decode cX5_one 99 = .ok (.iconst 1, 1) := by decide +kernel
theorem dX5_one_100 : decode cX5_one 100 = .ok (.iadd, 1) := by decide +kernel
theorem dX5_one_101 : decode cX5_one 101 = .ok (.invokevirtual 36, 3) := by decide +kernel
theorem dX5_one_104 : decode cX5_one 104 = .ok (.ifCond .eq 16, 3) := by decide +kernel
theorem dX5_one_107 : decode cX5_one 107 = .ok (.aload_n 0, 1) := by decide +kernel
theorem dX5_one_108 : decode cX5_one 108 = .ok (.bipush 41, 2) := by decide +kernel
theorem dX5_one_110 : decode cX5_one 110 = .ok (.invokevirtual 32, 3) := by decide +kernel
theorem dX5_one_113 : decode cX5_one 113 = .ok (.ifCond .eq 7, 3) := by decide +kernel
theorem dX5_one_116 : decode cX5_one 116 = .ok (.iconst 1, 1) := by decide +kernel
theorem dX5_one_117 : decode cX5_one 117 = .ok (.goto 4, 3) := by decide +kernel
theorem dX5_one_120 : decode cX5_one 120 = .ok (.iconst 0, 1) := by decide +kernel
theorem dX5_one_121 : decode cX5_one 121 = .ok (.ireturn, 1) := by decide +kernel
theorem dX5_enter_0 : decode cX5_enter 0 = .ok (.iload_n 1, 1) := by decide +kernel
theorem dX5_enter_1 : decode cX5_enter 1 = .ok (.iconst 5, 1) := by decide +kernel
theorem dX5_enter_2 : decode cX5_enter 2 = .ok (.if_icmp .lt 5, 3) := by decide +kernel
theorem dX5_enter_5 : decode cX5_enter 5 = .ok (.iconst 0, 1) := by decide +kernel
theorem dX5_enter_6 : decode cX5_enter 6 = .ok (.ireturn, 1) := by decide +kernel
theorem dX5_enter_7 : decode cX5_enter 7 = .ok (.aload_n 0, 1) := by decide +kernel
theorem dX5_enter_8 : decode cX5_enter 8 = .ok (.invokevirtual 29, 3) := by decide +kernel
theorem dX5_enter_11 : decode cX5_enter 11 = .ok (.iconst 1, 1) := by decide +kernel
theorem dX5_enter_12 : decode cX5_enter 12 = .ok (.ireturn, 1) := by decide +kernel
theorem dX5_pass_0 : decode cX5_pass 0 = .ok (.aload_n 0, 1) := by decide +kernel
theorem dX5_pass_1 : decode cX5_pass 1 = .ok (.getfield 39, 3) := by decide +kernel
theorem dX5_pass_4 : decode cX5_pass 4 = .ok (.iload_n 1, 1) := by decide +kernel
theorem dX5_pass_5 : decode cX5_pass 5 = .ok (.if_icmp .eq 5, 3) := by decide +kernel
theorem dX5_pass_8 : decode cX5_pass 8 = .ok (.iconst 0, 1) := by decide +kernel
theorem dX5_pass_9 : decode cX5_pass 9 = .ok (.ireturn, 1) := by decide +kernel
theorem dX5_pass_10 : decode cX5_pass 10 = .ok (.aload_n 0, 1) := by decide +kernel
theorem dX5_pass_11 : decode cX5_pass 11 = .ok (.invokevirtual 29, 3) := by decide +kernel
theorem dX5_pass_14 : decode cX5_pass 14 = .ok (.iconst 1, 1) := by decide +kernel
theorem dX5_pass_15 : decode cX5_pass 15 = .ok (.ireturn, 1) := by decide +kernel
theorem dX5_emit_0 : decode cX5_emit 0 = .ok (.aload_n 0, 1) := by decide +kernel
theorem dX5_emit_1 : decode cX5_emit 1 = .ok (.getfield 26, 3) := by decide +kernel
theorem dX5_emit_4 : decode cX5_emit 4 = .ok (.sipush 160, 3) := by decide +kernel
theorem dX5_emit_7 : decode cX5_emit 7 = .ok (.if_icmp .ge 28, 3) := by decide +kernel
theorem dX5_emit_10 : decode cX5_emit 10 = .ok (.aload_n 0, 1) := by decide +kernel
theorem dX5_emit_11 : decode cX5_emit 11 = .ok (.getfield 15, 3) := by decide +kernel
theorem dX5_emit_14 : decode cX5_emit 14 = .ok (.aload_n 0, 1) := by decide +kernel
theorem dX5_emit_15 : decode cX5_emit 15 = .ok (.getfield 26, 3) := by decide +kernel
theorem dX5_emit_18 : decode cX5_emit 18 = .ok (.iload_n 1, 1) := by decide +kernel
theorem dX5_emit_19 : decode cX5_emit 19 = .ok (.bipush 64, 2) := by decide +kernel
theorem dX5_emit_21 : decode cX5_emit 21 = .ok (.iload_n 2, 1) := by decide +kernel
theorem dX5_emit_22 : decode cX5_emit 22 = .ok (.imul, 1) := by decide +kernel
theorem dX5_emit_23 : decode cX5_emit 23 = .ok (.iadd, 1) := by decide +kernel
theorem dX5_emit_24 : decode cX5_emit 24 = .ok (.iastore, 1) := by decide +kernel
theorem dX5_emit_25 : decode cX5_emit 25 = .ok (.aload_n 0, 1) := by decide +kernel
theorem dX5_emit_26 : decode cX5_emit 26 = .ok (.dup, 1) := by decide +kernel
theorem dX5_emit_27 : decode cX5_emit 27 = .ok (.getfield 26, 3) := by decide +kernel
theorem dX5_emit_30 : decode cX5_emit 30 = .ok (.iconst 1, 1) := by decide +kernel
theorem dX5_emit_31 : decode cX5_emit 31 = .ok (.iadd, 1) := by decide +kernel
theorem dX5_emit_32 : decode cX5_emit 32 = .ok (.putfield 26, 3) := by decide +kernel
theorem dX5_emit_35 : decode cX5_emit 35 = .ok (.iconst 1, 1) := by decide +kernel
theorem dX5_emit_36 : decode cX5_emit 36 = .ok (.ireturn, 1) := by decide +kernel
theorem dX5_advance_0 : decode cX5_advance 0 = .ok (.aload_n 0, 1) := by decide +kernel
theorem dX5_advance_1 : decode cX5_advance 1 = .ok (.getfield 23, 3) := by decide +kernel
theorem dX5_advance_4 : decode cX5_advance 4 = .ok (.istore_n 1, 1) := by decide +kernel
theorem dX5_advance_5 : decode cX5_advance 5 = .ok (.iconst 0, 1) := by decide +kernel
theorem dX5_advance_6 : decode cX5_advance 6 = .ok (.istore_n 2, 1) := by decide +kernel
theorem dX5_advance_7 : decode cX5_advance 7 = .ok (.iload_n 2, 1) := by decide +kernel
theorem dX5_advance_8 : decode cX5_advance 8 = .ok (.sipush 160, 3) := by decide +kernel
theorem dX5_advance_11 : decode cX5_advance 11 = .ok (.if_icmp .ge 42, 3) := by decide +kernel
theorem dX5_advance_14 : decode cX5_advance 14 = .ok (.iload_n 1, 1) := by decide +kernel
theorem dX5_advance_15 : decode cX5_advance 15 = .ok (.aload_n 0, 1) := by decide +kernel
theorem dX5_advance_16 : decode cX5_advance 16 = .ok (.getfield 19, 3) := by decide +kernel
theorem dX5_advance_19 : decode cX5_advance 19 = .ok (.if_icmp .ge 34, 3) := by decide +kernel
theorem dX5_advance_22 : decode cX5_advance 22 = .ok (.aload_n 0, 1) := by decide +kernel
theorem dX5_advance_23 : decode cX5_advance 23 = .ok (.getfield 9, 3) := by decide +kernel
theorem dX5_advance_26 : decode cX5_advance 26 = .ok (.iload_n 1, 1) := by decide +kernel
theorem dX5_advance_27 : decode cX5_advance 27 = .ok (.caload, 1) := by decide +kernel
theorem dX5_advance_28 : decode cX5_advance 28 = .ok (.bipush 32, 2) := by decide +kernel
theorem dX5_advance_30 : decode cX5_advance 30 = .ok (.if_icmp .eq 14, 3) := by decide +kernel
theorem dX5_advance_33 : decode cX5_advance 33 = .ok (.aload_n 0, 1) := by decide +kernel
theorem dX5_advance_34 : decode cX5_advance 34 = .ok (.getfield 9, 3) := by decide +kernel
theorem dX5_advance_37 : decode cX5_advance 37 = .ok (.iload_n 1, 1) := by decide +kernel
theorem dX5_advance_38 : decode cX5_advance 38 = .ok (.caload, 1) := by decide +kernel
theorem dX5_advance_39 : decode cX5_advance 39 = .ok (.bipush 10, 2) := by decide +kernel
theorem dX5_advance_41 : decode cX5_advance 41 = .ok (.if_icmp .ne 12, 3) := by decide +kernel
theorem dX5_advance_44 : decode cX5_advance 44 = .ok (.iinc 1 1, 3) := by decide +kernel
theorem dX5_advance_47 : decode cX5_advance 47 = .ok (.iinc 2 1, 3) := by decide +kernel
theorem dX5_advance_50 : decode cX5_advance 50 = .ok (.goto (-43), 3) := by decide +kernel
theorem dX5_advance_53 : decode cX5_advance 53 = .ok (.aload_n 0, 1) := by decide +kernel
theorem dX5_advance_54 : decode cX5_advance 54 = .ok (.iload_n 1, 1) := by decide +kernel
theorem dX5_advance_55 : decode cX5_advance 55 = .ok (.putfield 78, 3) := by decide +kernel
theorem dX5_advance_58 : decode cX5_advance 58 = .ok (.aload_n 0, 1) := by decide +kernel
theorem dX5_advance_59 : decode cX5_advance 59 = .ok (.iload_n 1, 1) := by decide +kernel
theorem dX5_advance_60 : decode cX5_advance 60 = .ok (.putfield 23, 3) := by decide +kernel
theorem dX5_advance_63 : decode cX5_advance 63 = .ok (.aload_n 0, 1) := by decide +kernel
theorem dX5_advance_64 : decode cX5_advance 64 = .ok (.bipush 9, 2) := by decide +kernel
theorem dX5_advance_66 : decode cX5_advance 66 = .ok (.putfield 39, 3) := by decide +kernel
theorem dX5_advance_69 : decode cX5_advance 69 = .ok (.iload_n 1, 1) := by decide +kernel
theorem dX5_advance_70 : decode cX5_advance 70 = .ok (.aload_n 0, 1) := by decide +kernel
theorem dX5_advance_71 : decode cX5_advance 71 = .ok (.getfield 19, 3) := by decide +kernel
theorem dX5_advance_74 : decode cX5_advance 74 = .ok (.if_icmp .ge 65, 3) := by decide +kernel
theorem dX5_advance_77 : decode cX5_advance 77 = .ok (.aload_n 0, 1) := by decide +kernel
theorem dX5_advance_78 : decode cX5_advance 78 = .ok (.getfield 9, 3) := by decide +kernel
theorem dX5_advance_81 : decode cX5_advance 81 = .ok (.iload_n 1, 1) := by decide +kernel
theorem dX5_advance_82 : decode cX5_advance 82 = .ok (.caload, 1) := by decide +kernel
theorem dX5_advance_83 : decode cX5_advance 83 = .ok (.bipush 97, 2) := by decide +kernel
theorem dX5_advance_85 : decode cX5_advance 85 = .ok (.if_icmp .lt 21, 3) := by decide +kernel
theorem dX5_advance_88 : decode cX5_advance 88 = .ok (.aload_n 0, 1) := by decide +kernel
theorem dX5_advance_89 : decode cX5_advance 89 = .ok (.getfield 9, 3) := by decide +kernel
theorem dX5_advance_92 : decode cX5_advance 92 = .ok (.iload_n 1, 1) := by decide +kernel
theorem dX5_advance_93 : decode cX5_advance 93 = .ok (.caload, 1) := by decide +kernel
theorem dX5_advance_94 : decode cX5_advance 94 = .ok (.bipush 122, 2) := by decide +kernel
theorem dX5_advance_96 : decode cX5_advance 96 = .ok (.if_icmp .gt 10, 3) := by decide +kernel
theorem dX5_advance_99 : decode cX5_advance 99 = .ok (.aload_n 0, 1) := by decide +kernel
theorem dX5_advance_100 : decode cX5_advance 100 = .ok (.invokevirtual 81, 3) := by decide +kernel
theorem dX5_advance_103 : decode cX5_advance 103 = .ok (.goto 36, 3) := by decide +kernel
theorem dX5_advance_106 : decode cX5_advance 106 = .ok (.aload_n 0, 1) := by decide +kernel
theorem dX5_advance_107 : decode cX5_advance 107 = .ok (.getfield 9, 3) := by decide +kernel
theorem dX5_advance_110 : decode cX5_advance 110 = .ok (.iload_n 1, 1) := by decide +kernel
theorem dX5_advance_111 : decode cX5_advance 111 = .ok (.caload, 1) := by decide +kernel
theorem dX5_advance_112 : decode cX5_advance 112 = .ok (.bipush 48, 2) := by decide +kernel
theorem dX5_advance_114 : decode cX5_advance 114 = .ok (.if_icmp .lt 21, 3) := by decide +kernel
theorem dX5_advance_117 : decode cX5_advance 117 = .ok (.aload_n 0, 1) := by decide +kernel
theorem dX5_advance_118 : decode cX5_advance 118 = .ok (.getfield 9, 3) := by decide +kernel
theorem dX5_advance_121 : decode cX5_advance 121 = .ok (.iload_n 1, 1) := by decide +kernel
theorem dX5_advance_122 : decode cX5_advance 122 = .ok (.caload, 1) := by decide +kernel
theorem dX5_advance_123 : decode cX5_advance 123 = .ok (.bipush 57, 2) := by decide +kernel
theorem dX5_advance_125 : decode cX5_advance 125 = .ok (.if_icmp .gt 10, 3) := by decide +kernel
theorem dX5_advance_128 : decode cX5_advance 128 = .ok (.aload_n 0, 1) := by decide +kernel
theorem dX5_advance_129 : decode cX5_advance 129 = .ok (.invokevirtual 84, 3) := by decide +kernel
theorem dX5_advance_132 : decode cX5_advance 132 = .ok (.goto 7, 3) := by decide +kernel
theorem dX5_advance_135 : decode cX5_advance 135 = .ok (.aload_n 0, 1) := by decide +kernel
theorem dX5_advance_136 : decode cX5_advance 136 = .ok (.invokevirtual 87, 3) := by decide +kernel
theorem dX5_advance_139 : decode cX5_advance 139 = .ok (.return_, 1) := by decide +kernel
theorem dX5_readWord_0 : decode cX5_readWord 0 = .ok (.iconst 0, 1) := by decide +kernel
theorem dX5_readWord_1 : decode cX5_readWord 1 = .ok (.istore_n 1, 1) := by decide +kernel
theorem dX5_readWord_2 : decode cX5_readWord 2 = .ok (.iload_n 1, 1) := by decide +kernel
theorem dX5_readWord_3 : decode cX5_readWord 3 = .ok (.sipush 160, 3) := by decide +kernel
theorem dX5_readWord_6 : decode cX5_readWord 6 = .ok (.if_icmp .ge 58, 3) := by decide +kernel
theorem dX5_readWord_9 : decode cX5_readWord 9 = .ok (.aload_n 0, 1) := by decide +kernel
theorem dX5_readWord_10 : decode cX5_readWord 10 = .ok (.getfield 23, 3) := by decide +kernel
theorem dX5_readWord_13 : decode cX5_readWord 13 = .ok (.aload_n 0, 1) := by decide +kernel
theorem dX5_readWord_14 : decode cX5_readWord 14 = .ok (.getfield 19, 3) := by decide +kernel
theorem dX5_readWord_17 : decode cX5_readWord 17 = .ok (.if_icmp .ge 47, 3) := by decide +kernel
theorem dX5_readWord_20 : decode cX5_readWord 20 = .ok (.aload_n 0, 1) := by decide +kernel
theorem dX5_readWord_21 : decode cX5_readWord 21 = .ok (.getfield 9, 3) := by decide +kernel
theorem dX5_readWord_24 : decode cX5_readWord 24 = .ok (.aload_n 0, 1) := by decide +kernel
theorem dX5_readWord_25 : decode cX5_readWord 25 = .ok (.getfield 23, 3) := by decide +kernel
theorem dX5_readWord_28 : decode cX5_readWord 28 = .ok (.caload, 1) := by decide +kernel
theorem dX5_readWord_29 : decode cX5_readWord 29 = .ok (.bipush 97, 2) := by decide +kernel
theorem dX5_readWord_31 : decode cX5_readWord 31 = .ok (.if_icmp .lt 33, 3) := by decide +kernel
theorem dX5_readWord_34 : decode cX5_readWord 34 = .ok (.aload_n 0, 1) := by decide +kernel
theorem dX5_readWord_35 : decode cX5_readWord 35 = .ok (.getfield 9, 3) := by decide +kernel
theorem dX5_readWord_38 : decode cX5_readWord 38 = .ok (.aload_n 0, 1) := by decide +kernel
theorem dX5_readWord_39 : decode cX5_readWord 39 = .ok (.getfield 23, 3) := by decide +kernel
theorem dX5_readWord_42 : decode cX5_readWord 42 = .ok (.caload, 1) := by decide +kernel
theorem dX5_readWord_43 : decode cX5_readWord 43 = .ok (.bipush 122, 2) := by decide +kernel
theorem dX5_readWord_45 : decode cX5_readWord 45 = .ok (.if_icmp .gt 19, 3) := by decide +kernel
theorem dX5_readWord_48 : decode cX5_readWord 48 = .ok (.aload_n 0, 1) := by decide +kernel
theorem dX5_readWord_49 : decode cX5_readWord 49 = .ok (.dup, 1) := by decide +kernel
theorem dX5_readWord_50 : decode cX5_readWord 50 = .ok (.getfield 23, 3) := by decide +kernel
theorem dX5_readWord_53 : decode cX5_readWord 53 = .ok (.iconst 1, 1) := by decide +kernel
theorem dX5_readWord_54 : decode cX5_readWord 54 = .ok (.iadd, 1) := by decide +kernel
theorem dX5_readWord_55 : decode cX5_readWord 55 = .ok (.putfield 23, 3) := by decide +kernel
theorem dX5_readWord_58 : decode cX5_readWord 58 = .ok (.iinc 1 1, 3) := by decide +kernel
theorem dX5_readWord_61 : decode cX5_readWord 61 = .ok (.goto (-59), 3) := by decide +kernel
theorem dX5_readWord_64 : decode cX5_readWord 64 = .ok (.aload_n 0, 1) := by decide +kernel
theorem dX5_readWord_65 : decode cX5_readWord 65 = .ok (.bipush 10, 2) := by decide +kernel
theorem dX5_readWord_67 : decode cX5_readWord 67 = .ok (.putfield 39, 3) := by decide +kernel
theorem dX5_readWord_70 : decode cX5_readWord 70 = .ok (.iconst 0, 1) := by decide +kernel
theorem dX5_readWord_71 : decode cX5_readWord 71 = .ok (.istore_n 1, 1) := by decide +kernel
theorem dX5_readWord_72 : decode cX5_readWord 72 = .ok (.iload_n 1, 1) := by decide +kernel
theorem dX5_readWord_73 : decode cX5_readWord 73 = .ok (.bipush 12, 2) := by decide +kernel
theorem dX5_readWord_75 : decode cX5_readWord 75 = .ok (.if_icmp .ge 35, 3) := by decide +kernel
theorem dX5_readWord_78 : decode cX5_readWord 78 = .ok (.aload_n 0, 1) := by decide +kernel
theorem dX5_readWord_79 : decode cX5_readWord 79 = .ok (.iload_n 1, 1) := by decide +kernel
theorem dX5_readWord_80 : decode cX5_readWord 80 = .ok (.invokevirtual 90, 3) := by decide +kernel
theorem dX5_readWord_83 : decode cX5_readWord 83 = .ok (.ifCond .eq 21, 3) := by decide +kernel
theorem dX5_readWord_86 : decode cX5_readWord 86 = .ok (.aload_n 0, 1) := by decide +kernel
theorem dX5_readWord_87 : decode cX5_readWord 87 = .ok (.iload_n 1, 1) := by decide +kernel
theorem dX5_readWord_88 : decode cX5_readWord 88 = .ok (.bipush 6, 2) := by decide +kernel
theorem dX5_readWord_90 : decode cX5_readWord 90 = .ok (.invokestatic 93, 3) := by decide +kernel
theorem dX5_readWord_93 : decode cX5_readWord 93 = .ok (.putfield 39, 3) := by decide +kernel
theorem dX5_readWord_96 : decode cX5_readWord 96 = .ok (.aload_n 0, 1) := by decide +kernel
theorem dX5_readWord_97 : decode cX5_readWord 97 = .ok (.iload_n 1, 1) := by decide +kernel
theorem dX5_readWord_98 : decode cX5_readWord 98 = .ok (.bipush 6, 2) := by decide +kernel
theorem dX5_readWord_100 : decode cX5_readWord 100 = .ok (.isub, 1) := by decide +kernel
theorem dX5_readWord_101 : decode cX5_readWord 101 = .ok (.putfield 75, 3) := by decide +kernel
theorem dX5_readWord_104 : decode cX5_readWord 104 = .ok (.iinc 1 1, 3) := by decide +kernel
theorem dX5_readWord_107 : decode cX5_readWord 107 = .ok (.goto (-35), 3) := by decide +kernel
theorem dX5_readWord_110 : decode cX5_readWord 110 = .ok (.return_, 1) := by decide +kernel
theorem dX5_isWord_0 : decode cX5_isWord 0 = .ok (.aload_n 0, 1) := by decide +kernel
theorem dX5_isWord_1 : decode cX5_isWord 1 = .ok (.getfield 23, 3) := by decide +kernel
theorem dX5_isWord_4 : decode cX5_isWord 4 = .ok (.aload_n 0, 1) := by decide +kernel
theorem dX5_isWord_5 : decode cX5_isWord 5 = .ok (.getfield 78, 3) := by decide +kernel
theorem dX5_isWord_8 : decode cX5_isWord 8 = .ok (.isub, 1) := by decide +kernel
theorem dX5_isWord_9 : decode cX5_isWord 9 = .ok (.istore_n 2, 1) := by decide +kernel
theorem dX5_isWord_10 : decode cX5_isWord 10 = .ok (.iconst 0, 1) := by decide +kernel
theorem dX5_isWord_11 : decode cX5_isWord 11 = .ok (.istore_n 3, 1) := by decide +kernel
theorem dX5_isWord_12 : decode cX5_isWord 12 = .ok (.iload_n 3, 1) := by decide +kernel
theorem dX5_isWord_13 : decode cX5_isWord 13 = .ok (.bipush 7, 2) := by decide +kernel
theorem dX5_isWord_15 : decode cX5_isWord 15 = .ok (.if_icmp .ge 54, 3) := by decide +kernel
theorem dX5_isWord_18 : decode cX5_isWord 18 = .ok (.ldc 99, 2) := by decide +kernel
theorem dX5_isWord_20 : decode cX5_isWord 20 = .ok (.iload_n 1, 1) := by decide +kernel
theorem dX5_isWord_21 : decode cX5_isWord 21 = .ok (.bipush 7, 2) := by decide +kernel
theorem dX5_isWord_23 : decode cX5_isWord 23 = .ok (.imul, 1) := by decide +kernel
theorem dX5_isWord_24 : decode cX5_isWord 24 = .ok (.iload_n 3, 1) := by decide +kernel
theorem dX5_isWord_25 : decode cX5_isWord 25 = .ok (.iadd, 1) := by decide +kernel
theorem dX5_isWord_26 : decode cX5_isWord 26 = .ok (.invokevirtual 101, 3) := by decide +kernel
theorem dX5_isWord_29 : decode cX5_isWord 29 = .ok (.istore 4, 2) := by decide +kernel
theorem dX5_isWord_31 : decode cX5_isWord 31 = .ok (.iload_n 3, 1) := by decide +kernel
theorem dX5_isWord_32 : decode cX5_isWord 32 = .ok (.iload_n 2, 1) := by decide +kernel
theorem dX5_isWord_33 : decode cX5_isWord 33 = .ok (.if_icmp .ge 17, 3) := by decide +kernel
theorem dX5_isWord_36 : decode cX5_isWord 36 = .ok (.aload_n 0, 1) := by decide +kernel
theorem dX5_isWord_37 : decode cX5_isWord 37 = .ok (.getfield 9, 3) := by decide +kernel
theorem dX5_isWord_40 : decode cX5_isWord 40 = .ok (.aload_n 0, 1) := by decide +kernel
theorem dX5_isWord_41 : decode cX5_isWord 41 = .ok (.getfield 78, 3) := by decide +kernel
theorem dX5_isWord_44 : decode cX5_isWord 44 = .ok (.iload_n 3, 1) := by decide +kernel
theorem dX5_isWord_45 : decode cX5_isWord 45 = .ok (.iadd, 1) := by decide +kernel
theorem dX5_isWord_46 : decode cX5_isWord 46 = .ok (.caload, 1) := by decide +kernel
theorem dX5_isWord_47 : decode cX5_isWord 47 = .ok (.goto 5, 3) := by decide +kernel
theorem dX5_isWord_50 : decode cX5_isWord 50 = .ok (.bipush 32, 2) := by decide +kernel
theorem dX5_isWord_52 : decode cX5_isWord 52 = .ok (.istore 5, 2) := by decide +kernel
theorem dX5_isWord_54 : decode cX5_isWord 54 = .ok (.iload 4, 2) := by decide +kernel
theorem dX5_isWord_56 : decode cX5_isWord 56 = .ok (.iload 5, 2) := by decide +kernel
theorem dX5_isWord_58 : decode cX5_isWord 58 = .ok (.if_icmp .eq 5, 3) := by decide +kernel
theorem dX5_isWord_61 : decode cX5_isWord 61 = .ok (.iconst 0, 1) := by decide +kernel
theorem dX5_isWord_62 : decode cX5_isWord 62 = .ok (.ireturn, 1) := by decide +kernel
theorem dX5_isWord_63 : decode cX5_isWord 63 = .ok (.iinc 3 1, 3) := by decide +kernel
theorem dX5_isWord_66 : decode cX5_isWord 66 = .ok (.goto (-54), 3) := by decide +kernel
theorem dX5_isWord_69 : decode cX5_isWord 69 = .ok (.iload_n 2, 1) := by decide +kernel
theorem dX5_isWord_70 : decode cX5_isWord 70 = .ok (.bipush 7, 2) := by decide +kernel
theorem dX5_isWord_72 : decode cX5_isWord 72 = .ok (.if_icmp .gt 7, 3) := by decide +kernel
theorem dX5_isWord_75 : decode cX5_isWord 75 = .ok (.iconst 1, 1) := by decide +kernel
theorem dX5_isWord_76 : decode cX5_isWord 76 = .ok (.goto 4, 3) := by decide +kernel
theorem dX5_isWord_79 : decode cX5_isWord 79 = .ok (.iconst 0, 1) := by decide +kernel
theorem dX5_isWord_80 : decode cX5_isWord 80 = .ok (.ireturn, 1) := by decide +kernel
theorem dX5_readNumber_0 : decode cX5_readNumber 0 = .ok (.aload_n 0, 1) := by decide +kernel
theorem dX5_readNumber_1 : decode cX5_readNumber 1 = .ok (.iconst 0, 1) := by decide +kernel
theorem dX5_readNumber_2 : decode cX5_readNumber 2 = .ok (.putfield 75, 3) := by decide +kernel
end
section
theorem dX5_readNumber_5 : decode cX5_readNumber 5 = .ok (.iconst 0, 1) := by decide +kernel
theorem dX5_readNumber_6 : decode cX5_readNumber 6 = .ok (.istore_n 1, 1) := by decide +kernel
theorem dX5_readNumber_7 : decode cX5_readNumber 7 = .ok (.iload_n 1, 1) := by decide +kernel
theorem dX5_readNumber_8 : decode cX5_readNumber 8 = .ok (.sipush 160, 3) := by decide +kernel
theorem dX5_readNumber_11 : decode cX5_readNumber 11 = .ok (.if_icmp .ge 82, 3) := by decide +kernel
theorem dX5_readNumber_14 : decode cX5_readNumber 14 = .ok (.aload_n 0, 1) := by decide +kernel
theorem dX5_readNumber_15 : decode cX5_readNumber 15 = .ok (.getfield 23, 3) := by decide +kernel
theorem dX5_readNumber_18 : decode cX5_readNumber 18 = .ok (.aload_n 0, 1) := by decide +kernel
theorem dX5_readNumber_19 : decode cX5_readNumber 19 = .ok (.getfield 19, 3) := by decide +kernel
theorem dX5_readNumber_22 : decode cX5_readNumber 22 = .ok (.if_icmp .ge 71, 3) := by decide +kernel
theorem dX5_readNumber_25 : decode cX5_readNumber 25 = .ok (.aload_n 0, 1) := by decide +kernel
theorem dX5_readNumber_26 : decode cX5_readNumber 26 = .ok (.getfield 9, 3) := by decide +kernel
theorem dX5_readNumber_29 : decode cX5_readNumber 29 = .ok (.aload_n 0, 1) := by decide +kernel
theorem dX5_readNumber_30 : decode cX5_readNumber 30 = .ok (.getfield 23, 3) := by decide +kernel
theorem dX5_readNumber_33 : decode cX5_readNumber 33 = .ok (.caload, 1) := by decide +kernel
theorem dX5_readNumber_34 : decode cX5_readNumber 34 = .ok (.bipush 48, 2) := by decide +kernel
theorem dX5_readNumber_36 : decode cX5_readNumber 36 = .ok (.if_icmp .lt 57, 3) := by decide +kernel
theorem dX5_readNumber_39 : decode cX5_readNumber 39 = .ok (.aload_n 0, 1) := by decide +kernel
theorem dX5_readNumber_40 : decode cX5_readNumber 40 = .ok (.getfield 9, 3) := by decide +kernel
theorem dX5_readNumber_43 : decode cX5_readNumber 43 = .ok (.aload_n 0, 1) := by decide +kernel
theorem dX5_readNumber_44 : decode cX5_readNumber 44 = .ok (.getfield 23, 3) := by decide +kernel
theorem dX5_readNumber_47 : decode cX5_readNumber 47 = .ok (.caload, 1) := by decide +kernel
theorem dX5_readNumber_48 : decode cX5_readNumber 48 = .ok (.bipush 57, 2) := by decide +kernel
theorem dX5_readNumber_50 : decode cX5_readNumber 50 = .ok (.if_icmp .gt 43, 3) := by decide +kernel
theorem dX5_readNumber_53 : decode cX5_readNumber 53 = .ok (.aload_n 0, 1) := by decide +kernel
theorem dX5_readNumber_54 : decode cX5_readNumber 54 = .ok (.bipush 10, 2) := by decide +kernel
theorem dX5_readNumber_56 : decode cX5_readNumber 56 = .ok (.aload_n 0, 1) := by decide +kernel
theorem dX5_readNumber_57 : decode cX5_readNumber 57 = .ok (.getfield 75, 3) := by decide +kernel
theorem dX5_readNumber_60 : decode cX5_readNumber 60 = .ok (.imul, 1) := by decide +kernel
theorem dX5_readNumber_61 : decode cX5_readNumber 61 = .ok (.aload_n 0, 1) := by decide +kernel
theorem dX5_readNumber_62 : decode cX5_readNumber 62 = .ok (.getfield 9, 3) := by decide +kernel
theorem dX5_readNumber_65 : decode cX5_readNumber 65 = .ok (.aload_n 0, 1) := by decide +kernel
theorem dX5_readNumber_66 : decode cX5_readNumber 66 = .ok (.getfield 23, 3) := by decide +kernel
theorem dX5_readNumber_69 : decode cX5_readNumber 69 = .ok (.caload, 1) := by decide +kernel
theorem dX5_readNumber_70 : decode cX5_readNumber 70 = .ok (.iadd, 1) := by decide +kernel
theorem dX5_readNumber_71 : decode cX5_readNumber 71 = .ok (.bipush 48, 2) := by decide +kernel
theorem dX5_readNumber_73 : decode cX5_readNumber 73 = .ok (.isub, 1) := by decide +kernel
theorem dX5_readNumber_74 : decode cX5_readNumber 74 = .ok (.putfield 75, 3) := by decide +kernel
theorem dX5_readNumber_77 : decode cX5_readNumber 77 = .ok (.aload_n 0, 1) := by decide +kernel
theorem dX5_readNumber_78 : decode cX5_readNumber 78 = .ok (.dup, 1) := by decide +kernel
theorem dX5_readNumber_79 : decode cX5_readNumber 79 = .ok (.getfield 23, 3) := by decide +kernel
theorem dX5_readNumber_82 : decode cX5_readNumber 82 = .ok (.iconst 1, 1) := by decide +kernel
theorem dX5_readNumber_83 : decode cX5_readNumber 83 = .ok (.iadd, 1) := by decide +kernel
theorem dX5_readNumber_84 : decode cX5_readNumber 84 = .ok (.putfield 23, 3) := by decide +kernel
theorem dX5_readNumber_87 : decode cX5_readNumber 87 = .ok (.iinc 1 1, 3) := by decide +kernel
theorem dX5_readNumber_90 : decode cX5_readNumber 90 = .ok (.goto (-83), 3) := by decide +kernel
theorem dX5_readNumber_93 : decode cX5_readNumber 93 = .ok (.aload_n 0, 1) := by decide +kernel
theorem dX5_readNumber_94 : decode cX5_readNumber 94 = .ok (.aload_n 0, 1) := by decide +kernel
theorem dX5_readNumber_95 : decode cX5_readNumber 95 = .ok (.getfield 23, 3) := by decide +kernel
theorem dX5_readNumber_98 : decode cX5_readNumber 98 = .ok (.aload_n 0, 1) := by decide +kernel
theorem dX5_readNumber_99 : decode cX5_readNumber 99 = .ok (.getfield 78, 3) := by decide +kernel
theorem dX5_readNumber_102 : decode cX5_readNumber 102 = .ok (.isub, 1) := by decide +kernel
theorem dX5_readNumber_103 : decode cX5_readNumber 103 = .ok (.iconst 4, 1) := by decide +kernel
theorem dX5_readNumber_104 : decode cX5_readNumber 104 = .ok (.if_icmp .le 8, 3) := by decide +kernel
theorem dX5_readNumber_107 : decode cX5_readNumber 107 = .ok (.bipush 10, 2) := by decide +kernel
theorem dX5_readNumber_109 : decode cX5_readNumber 109 = .ok (.goto 5, 3) := by decide +kernel
theorem dX5_readNumber_112 : decode cX5_readNumber 112 = .ok (.bipush 7, 2) := by decide +kernel
theorem dX5_readNumber_114 : decode cX5_readNumber 114 = .ok (.putfield 39, 3) := by decide +kernel
theorem dX5_readNumber_117 : decode cX5_readNumber 117 = .ok (.return_, 1) := by decide +kernel
theorem dX5_readSign_0 : decode cX5_readSign 0 = .ok (.aload_n 0, 1) := by decide +kernel
theorem dX5_readSign_1 : decode cX5_readSign 1 = .ok (.ldc 107, 2) := by decide +kernel
theorem dX5_readSign_3 : decode cX5_readSign 3 = .ok (.aload_n 0, 1) := by decide +kernel
theorem dX5_readSign_4 : decode cX5_readSign 4 = .ok (.getfield 9, 3) := by decide +kernel
theorem dX5_readSign_7 : decode cX5_readSign 7 = .ok (.aload_n 0, 1) := by decide +kernel
theorem dX5_readSign_8 : decode cX5_readSign 8 = .ok (.getfield 78, 3) := by decide +kernel
theorem dX5_readSign_11 : decode cX5_readSign 11 = .ok (.caload, 1) := by decide +kernel
theorem dX5_readSign_12 : decode cX5_readSign 12 = .ok (.invokevirtual 109, 3) := by decide +kernel
theorem dX5_readSign_15 : decode cX5_readSign 15 = .ok (.ifCond .lt 15, 3) := by decide +kernel
theorem dX5_readSign_18 : decode cX5_readSign 18 = .ok (.aload_n 0, 1) := by decide +kernel
theorem dX5_readSign_19 : decode cX5_readSign 19 = .ok (.getfield 9, 3) := by decide +kernel
theorem dX5_readSign_22 : decode cX5_readSign 22 = .ok (.aload_n 0, 1) := by decide +kernel
theorem dX5_readSign_23 : decode cX5_readSign 23 = .ok (.getfield 78, 3) := by decide +kernel
theorem dX5_readSign_26 : decode cX5_readSign 26 = .ok (.caload, 1) := by decide +kernel
theorem dX5_readSign_27 : decode cX5_readSign 27 = .ok (.goto 5, 3) := by decide +kernel
theorem dX5_readSign_30 : decode cX5_readSign 30 = .ok (.bipush 10, 2) := by decide +kernel
theorem dX5_readSign_32 : decode cX5_readSign 32 = .ok (.putfield 39, 3) := by decide +kernel
theorem dX5_readSign_35 : decode cX5_readSign 35 = .ok (.aload_n 0, 1) := by decide +kernel
theorem dX5_readSign_36 : decode cX5_readSign 36 = .ok (.aload_n 0, 1) := by decide +kernel
theorem dX5_readSign_37 : decode cX5_readSign 37 = .ok (.getfield 78, 3) := by decide +kernel
theorem dX5_readSign_40 : decode cX5_readSign 40 = .ok (.iconst 1, 1) := by decide +kernel
theorem dX5_readSign_41 : decode cX5_readSign 41 = .ok (.iadd, 1) := by decide +kernel
theorem dX5_readSign_42 : decode cX5_readSign 42 = .ok (.putfield 23, 3) := by decide +kernel
theorem dX5_readSign_45 : decode cX5_readSign 45 = .ok (.return_, 1) := by decide +kernel
theorem dX6_init_0 : decode cX6_init 0 = .ok (.aload_n 0, 1) := by decide +kernel
theorem dX6_init_1 : decode cX6_init 1 = .ok (.invokespecial 3, 3) := by decide +kernel
theorem dX6_init_4 : decode cX6_init 4 = .ok (.aload_n 0, 1) := by decide +kernel
theorem dX6_init_5 : decode cX6_init 5 = .ok (.bipush 40, 2) := by decide +kernel
theorem dX6_init_7 : decode cX6_init 7 = .ok (.newarray .int, 2) := by decide +kernel
theorem dX6_init_9 : decode cX6_init 9 = .ok (.putfield 9, 3) := by decide +kernel
theorem dX6_init_12 : decode cX6_init 12 = .ok (.aload_n 0, 1) := by decide +kernel
theorem dX6_init_13 : decode cX6_init 13 = .ok (.iconst (-1), 1) := by decide +kernel
theorem dX6_init_14 : decode cX6_init 14 = .ok (.putfield 15, 3) := by decide +kernel
theorem dX6_init_17 : decode cX6_init 17 = .ok (.aload_n 0, 1) := by decide +kernel
theorem dX6_init_18 : decode cX6_init 18 = .ok (.iconst 0, 1) := by decide +kernel
theorem dX6_init_19 : decode cX6_init 19 = .ok (.putfield 19, 3) := by decide +kernel
theorem dX6_init_22 : decode cX6_init 22 = .ok (.return_, 1) := by decide +kernel
theorem dX6_isMissing_0 : decode cX6_isMissing 0 = .ok (.aload_n 0, 1) := by decide +kernel
theorem dX6_isMissing_1 : decode cX6_isMissing 1 = .ok (.getfield 15, 3) := by decide +kernel
theorem dX6_isMissing_4 : decode cX6_isMissing 4 = .ok (.iconst (-1), 1) := by decide +kernel
theorem dX6_isMissing_5 : decode cX6_isMissing 5 = .ok (.if_icmp .ne 7, 3) := by decide +kernel
theorem dX6_isMissing_8 : decode cX6_isMissing 8 = .ok (.iconst 1, 1) := by decide +kernel
theorem dX6_isMissing_9 : decode cX6_isMissing 9 = .ok (.goto 4, 3) := by decide +kernel
theorem dX6_isMissing_12 : decode cX6_isMissing 12 = .ok (.iconst 0, 1) := by decide +kernel
theorem dX6_isMissing_13 : decode cX6_isMissing 13 = .ok (.ireturn, 1) := by decide +kernel
theorem dX6_become_0 : decode cX6_become 0 = .ok (.aload_n 0, 1) := by decide +kernel
theorem dX6_become_1 : decode cX6_become 1 = .ok (.iload_n 1, 1) := by decide +kernel
theorem dX6_become_2 : decode cX6_become 2 = .ok (.putfield 15, 3) := by decide +kernel
theorem dX6_become_5 : decode cX6_become 5 = .ok (.aload_n 0, 1) := by decide +kernel
theorem dX6_become_6 : decode cX6_become 6 = .ok (.iload_n 2, 1) := by decide +kernel
theorem dX6_become_7 : decode cX6_become 7 = .ok (.putfield 19, 3) := by decide +kernel
theorem dX6_become_10 : decode cX6_become 10 = .ok (.aload_n 0, 1) := by decide +kernel
theorem dX6_become_11 : decode cX6_become 11 = .ok (.getfield 9, 3) := by decide +kernel
theorem dX6_become_14 : decode cX6_become 14 = .ok (.iconst 0, 1) := by decide +kernel
theorem dX6_become_15 : decode cX6_become 15 = .ok (.invokestatic 22, 3) := by decide +kernel
theorem dX6_become_18 : decode cX6_become 18 = .ok (.return_, 1) := by decide +kernel
theorem dX6_put_0 : decode cX6_put 0 = .ok (.aload_n 0, 1) := by decide +kernel
theorem dX6_put_1 : decode cX6_put 1 = .ok (.getfield 9, 3) := by decide +kernel
theorem dX6_put_4 : decode cX6_put 4 = .ok (.iload_n 1, 1) := by decide +kernel
theorem dX6_put_5 : decode cX6_put 5 = .ok (.aload_n 0, 1) := by decide +kernel
theorem dX6_put_6 : decode cX6_put 6 = .ok (.getfield 15, 3) := by decide +kernel
theorem dX6_put_9 : decode cX6_put 9 = .ok (.ifCond .ne 8, 3) := by decide +kernel
theorem dX6_put_12 : decode cX6_put 12 = .ok (.iload_n 2, 1) := by decide +kernel
theorem dX6_put_13 : decode cX6_put 13 = .ok (.i2b, 1) := by decide +kernel
theorem dX6_put_14 : decode cX6_put 14 = .ok (.goto 17, 3) := by decide +kernel
theorem dX6_put_17 : decode cX6_put 17 = .ok (.aload_n 0, 1) := by decide +kernel
theorem dX6_put_18 : decode cX6_put 18 = .ok (.getfield 15, 3) := by decide +kernel
theorem dX6_put_21 : decode cX6_put 21 = .ok (.iconst 1, 1) := by decide +kernel
theorem dX6_put_22 : decode cX6_put 22 = .ok (.if_icmp .ne 8, 3) := by decide +kernel
theorem dX6_put_25 : decode cX6_put 25 = .ok (.iload_n 2, 1) := by decide +kernel
theorem dX6_put_26 : decode cX6_put 26 = .ok (.i2s, 1) := by decide +kernel
theorem dX6_put_27 : decode cX6_put 27 = .ok (.goto 4, 3) := by decide +kernel
theorem dX6_put_30 : decode cX6_put 30 = .ok (.iload_n 2, 1) := by decide +kernel
theorem dX6_put_31 : decode cX6_put 31 = .ok (.iastore, 1) := by decide +kernel
theorem dX6_put_32 : decode cX6_put 32 = .ok (.return_, 1) := by decide +kernel
theorem dX6_hasRoom_0 : decode cX6_hasRoom 0 = .ok (.iload_n 2, 1) := by decide +kernel
theorem dX6_hasRoom_1 : decode cX6_hasRoom 1 = .ok (.ifCond .lt 29, 3) := by decide +kernel
theorem dX6_hasRoom_4 : decode cX6_hasRoom 4 = .ok (.iload_n 2, 1) := by decide +kernel
theorem dX6_hasRoom_5 : decode cX6_hasRoom 5 = .ok (.aload_n 0, 1) := by decide +kernel
theorem dX6_hasRoom_6 : decode cX6_hasRoom 6 = .ok (.getfield 19, 3) := by decide +kernel
theorem dX6_hasRoom_9 : decode cX6_hasRoom 9 = .ok (.if_icmp .gt 21, 3) := by decide +kernel
theorem dX6_hasRoom_12 : decode cX6_hasRoom 12 = .ok (.iload_n 1, 1) := by decide +kernel
theorem dX6_hasRoom_13 : decode cX6_hasRoom 13 = .ok (.ifCond .lt 17, 3) := by decide +kernel
theorem dX6_hasRoom_16 : decode cX6_hasRoom 16 = .ok (.iload_n 1, 1) := by decide +kernel
theorem dX6_hasRoom_17 : decode cX6_hasRoom 17 = .ok (.aload_n 0, 1) := by decide +kernel
theorem dX6_hasRoom_18 : decode cX6_hasRoom 18 = .ok (.getfield 19, 3) := by decide +kernel
theorem dX6_hasRoom_21 : decode cX6_hasRoom 21 = .ok (.iload_n 2, 1) := by decide +kernel
theorem dX6_hasRoom_22 : decode cX6_hasRoom 22 = .ok (.isub, 1) := by decide +kernel
theorem dX6_hasRoom_23 : decode cX6_hasRoom 23 = .ok (.if_icmp .gt 7, 3) := by decide +kernel
theorem dX6_hasRoom_26 : decode cX6_hasRoom 26 = .ok (.iconst 1, 1) := by decide +kernel
theorem dX6_hasRoom_27 : decode cX6_hasRoom 27 = .ok (.goto 4, 3) := by decide +kernel
theorem dX6_hasRoom_30 : decode cX6_hasRoom 30 = .ok (.iconst 0, 1) := by decide +kernel
theorem dX6_hasRoom_31 : decode cX6_hasRoom 31 = .ok (.ireturn, 1) := by decide +kernel
theorem dX7_init_0 : decode cX7_init 0 = .ok (.aload_n 0, 1) := by decide +kernel
theorem dX7_init_1 : decode cX7_init 1 = .ok (.invokespecial 1, 3) := by decide +kernel
theorem dX7_init_4 : decode cX7_init 4 = .ok (.aload_n 0, 1) := by decide +kernel
theorem dX7_init_5 : decode cX7_init 5 = .ok (.iload_n 1, 1) := by decide +kernel
theorem dX7_init_6 : decode cX7_init 6 = .ok (.putfield 7, 3) := by decide +kernel
theorem dX7_init_9 : decode cX7_init 9 = .ok (.aload_n 0, 1) := by decide +kernel
theorem dX7_init_10 : decode cX7_init 10 = .ok (.iload_n 2, 1) := by decide +kernel
theorem dX7_init_11 : decode cX7_init 11 = .ok (.putfield 13, 3) := by decide +kernel
theorem dX7_init_14 : decode cX7_init 14 = .ok (.aload_n 0, 1) := by decide +kernel
theorem dX7_init_15 : decode cX7_init 15 = .ok (.iload_n 3, 1) := by decide +kernel
theorem dX7_init_16 : decode cX7_init 16 = .ok (.putfield 16, 3) := by decide +kernel
theorem dX7_init_19 : decode cX7_init 19 = .ok (.return_, 1) := by decide +kernel
theorem dX7_kind_0 : decode cX7_kind 0 = .ok (.iconst 0, 1) := by decide +kernel
theorem dX7_kind_1 : decode cX7_kind 1 = .ok (.ireturn, 1) := by decide +kernel
theorem dX7_isUnder_0 : decode cX7_isUnder 0 = .ok (.iload_n 1, 1) := by decide +kernel
theorem dX7_isUnder_1 : decode cX7_isUnder 1 = .ok (.ifCond .ne 7, 3) := by decide +kernel
theorem dX7_isUnder_4 : decode cX7_isUnder 4 = .ok (.iconst 1, 1) := by decide +kernel
theorem dX7_isUnder_5 : decode cX7_isUnder 5 = .ok (.goto 4, 3) := by decide +kernel
theorem dX7_isUnder_8 : decode cX7_isUnder 8 = .ok (.iconst 0, 1) := by decide +kernel
theorem dX7_isUnder_9 : decode cX7_isUnder 9 = .ok (.ireturn, 1) := by decide +kernel
theorem dX7_canHold_0 : decode cX7_canHold 0 = .ok (.iconst 1, 1) := by decide +kernel
theorem dX7_canHold_1 : decode cX7_canHold 1 = .ok (.aload_n 0, 1) := by decide +kernel
theorem dX7_canHold_2 : decode cX7_canHold 2 = .ok (.iload_n 1, 1) := by decide +kernel
theorem dX7_canHold_3 : decode cX7_canHold 3 = .ok (.iload_n 2, 1) := by decide +kernel
theorem dX7_canHold_4 : decode cX7_canHold 4 = .ok (.invokevirtual 19, 3) := by decide +kernel
theorem dX7_canHold_7 : decode cX7_canHold 7 = .ok (.invokestatic 23, 3) := by decide +kernel
theorem dX7_canHold_10 : decode cX7_canHold 10 = .ok (.ireturn, 1) := by decide +kernel
theorem dX7_reach_0 : decode cX7_reach 0 = .ok (.aload_n 0, 1) := by decide +kernel
theorem dX7_reach_1 : decode cX7_reach 1 = .ok (.getfield 7, 3) := by decide +kernel
theorem dX7_reach_4 : decode cX7_reach 4 = .ok (.iload_n 1, 1) := by decide +kernel
theorem dX7_reach_5 : decode cX7_reach 5 = .ok (.isub, 1) := by decide +kernel
theorem dX7_reach_6 : decode cX7_reach 6 = .ok (.ireturn, 1) := by decide +kernel
theorem dX7_silentSteps_0 : decode cX7_silentSteps 0 = .ok (.aload_n 0, 1) := by decide +kernel
theorem dX7_silentSteps_1 : decode cX7_silentSteps 1 = .ok (.getfield 13, 3) := by decide +kernel
theorem dX7_silentSteps_4 : decode cX7_silentSteps 4 = .ok (.ireturn, 1) := by decide +kernel
theorem dX7_says_0 : decode cX7_says 0 = .ok (.aload_n 0, 1) := by decide +kernel
theorem dX7_says_1 : decode cX7_says 1 = .ok (.getfield 16, 3) := by decide +kernel
theorem dX7_says_4 : decode cX7_says 4 = .ok (.iconst 2, 1) := by decide +kernel
theorem dX7_says_5 : decode cX7_says 5 = .ok (.irem, 1) := by decide +kernel
theorem dX7_says_6 : decode cX7_says 6 = .ok (.ifCond .ne 7, 3) := by decide +kernel
theorem dX7_says_9 : decode cX7_says 9 = .ok (.iconst 1, 1) := by decide +kernel
theorem dX7_says_10 : decode cX7_says 10 = .ok (.goto 4, 3) := by decide +kernel
theorem dX7_says_13 : decode cX7_says 13 = .ok (.iconst 0, 1) := by decide +kernel
theorem dX7_says_14 : decode cX7_says 14 = .ok (.ireturn, 1) := by decide +kernel
theorem dX8_init_0 : decode cX8_init 0 = .ok (.aload_n 0, 1) := by decide +kernel
theorem dX8_init_1 : decode cX8_init 1 = .ok (.iload_n 1, 1) := by decide +kernel
theorem dX8_init_2 : decode cX8_init 2 = .ok (.iload_n 2, 1) := by decide +kernel
theorem dX8_init_3 : decode cX8_init 3 = .ok (.iload_n 3, 1) := by decide +kernel
theorem dX8_init_4 : decode cX8_init 4 = .ok (.invokespecial 1, 3) := by decide +kernel
theorem dX8_init_7 : decode cX8_init 7 = .ok (.return_, 1) := by decide +kernel
theorem dX8_kind_0 : decode cX8_kind 0 = .ok (.iconst 1, 1) := by decide +kernel
theorem dX8_kind_1 : decode cX8_kind 1 = .ok (.ireturn, 1) := by decide +kernel
theorem dX8_isUnder_0 : decode cX8_isUnder 0 = .ok (.iload_n 1, 1) := by decide +kernel
theorem dX8_isUnder_1 : decode cX8_isUnder 1 = .ok (.iconst 1, 1) := by decide +kernel
theorem dX8_isUnder_2 : decode cX8_isUnder 2 = .ok (.if_icmp .eq 11, 3) := by decide +kernel
theorem dX8_isUnder_5 : decode cX8_isUnder 5 = .ok (.aload_n 0, 1) := by decide +kernel
theorem dX8_isUnder_6 : decode cX8_isUnder 6 = .ok (.iload_n 1, 1) := by decide +kernel
theorem dX8_isUnder_7 : decode cX8_isUnder 7 = .ok (.invokespecial 9, 3) := by decide +kernel
theorem dX8_isUnder_10 : decode cX8_isUnder 10 = .ok (.ifCond .eq 7, 3) := by decide +kernel
theorem dX8_isUnder_13 : decode cX8_isUnder 13 = .ok (.iconst 1, 1) := by decide +kernel
theorem dX8_isUnder_14 : decode cX8_isUnder 14 = .ok (.goto 4, 3) := by decide +kernel
theorem dX8_isUnder_17 : decode cX8_isUnder 17 = .ok (.iconst 0, 1) := by decide +kernel
theorem dX8_isUnder_18 : decode cX8_isUnder 18 = .ok (.ireturn, 1) := by decide +kernel
theorem dX8_reach_0 : decode cX8_reach 0 = .ok (.aload_n 0, 1) := by decide +kernel
theorem dX8_reach_1 : decode cX8_reach 1 = .ok (.iload_n 1, 1) := by decide +kernel
theorem dX8_reach_2 : decode cX8_reach 2 = .ok (.iload_n 2, 1) := by decide +kernel
theorem dX8_reach_3 : decode cX8_reach 3 = .ok (.invokespecial 13, 3) := by decide +kernel
theorem dX8_reach_6 : decode cX8_reach 6 = .ok (.iload_n 1, 1) := by decide +kernel
theorem dX8_reach_7 : decode cX8_reach 7 = .ok (.iconst 2, 1) := by decide +kernel
theorem dX8_reach_8 : decode cX8_reach 8 = .ok (.idiv, 1) := by decide +kernel
theorem dX8_reach_9 : decode cX8_reach 9 = .ok (.iadd, 1) := by decide +kernel
theorem dX8_reach_10 : decode cX8_reach 10 = .ok (.ireturn, 1) := by decide +kernel
theorem dX8_says_0 : decode cX8_says 0 = .ok (.iconst 0, 1) := by decide +kernel
theorem dX8_says_1 : decode cX8_says 1 = .ok (.ireturn, 1) := by decide +kernel
theorem dX9_init_0 : decode cX9_init 0 = .ok (.aload_n 0, 1) := by decide +kernel
theorem dX9_init_1 : decode cX9_init 1 = .ok (.invokespecial 3, 3) := by decide +kernel
theorem dX9_init_4 : decode cX9_init 4 = .ok (.aload_n 0, 1) := by decide +kernel
theorem dX9_init_5 : decode cX9_init 5 = .ok (.bipush 32, 2) := by decide +kernel
theorem dX9_init_7 : decode cX9_init 7 = .ok (.newarray .int, 2) := by decide +kernel
theorem dX9_init_9 : decode cX9_init 9 = .ok (.putfield 11, 3) := by decide +kernel
theorem dX9_init_12 : decode cX9_init 12 = .ok (.aload_n 0, 1) := by decide +kernel
theorem dX9_init_13 : decode cX9_init 13 = .ok (.aload_n 1, 1) := by decide +kernel
theorem dX9_init_14 : decode cX9_init 14 = .ok (.putfield 15, 3) := by decide +kernel
theorem dX9_init_17 : decode cX9_init 17 = .ok (.aload_n 0, 1) := by decide +kernel
theorem dX9_init_18 : decode cX9_init 18 = .ok (.aload_n 2, 1) := by decide +kernel
theorem dX9_init_19 : decode cX9_init 19 = .ok (.putfield 18, 3) := by decide +kernel
theorem dX9_init_22 : decode cX9_init 22 = .ok (.return_, 1) := by decide +kernel
theorem dX9_valueOf_0 : decode cX9_valueOf 0 = .ok (.iload_n 1, 1) := by decide +kernel
theorem dX9_valueOf_1 : decode cX9_valueOf 1 = .ok (.aload_n 0, 1) := by decide +kernel
theorem dX9_valueOf_2 : decode cX9_valueOf 2 = .ok (.getfield 18, 3) := by decide +kernel
theorem dX9_valueOf_5 : decode cX9_valueOf 5 = .ok (.arraylength, 1) := by decide +kernel
theorem dX9_valueOf_6 : decode cX9_valueOf 6 = .ok (.invokestatic 21, 3) := by decide +kernel
theorem dX9_valueOf_9 : decode cX9_valueOf 9 = .ok (.ifCond .eq 5, 3) := by decide +kernel
theorem dX9_valueOf_12 : decode cX9_valueOf 12 = .ok (.iconst 0, 1) := by decide +kernel
theorem dX9_valueOf_13 : decode cX9_valueOf 13 = .ok (.ireturn, 1) := by decide +kernel
theorem dX9_valueOf_14 : decode cX9_valueOf 14 = .ok (.iload_n 1, 1) := by decide +kernel
theorem dX9_valueOf_15 : decode cX9_valueOf 15 = .ok (.ifCond .ne 7, 3) := by decide +kernel
theorem dX9_valueOf_18 : decode cX9_valueOf 18 = .ok (.iconst 0, 1) := by decide +kernel
theorem dX9_valueOf_19 : decode cX9_valueOf 19 = .ok (.goto 11, 3) := by decide +kernel
theorem dX9_valueOf_22 : decode cX9_valueOf 22 = .ok (.aload_n 0, 1) := by decide +kernel
theorem dX9_valueOf_23 : decode cX9_valueOf 23 = .ok (.getfield 18, 3) := by decide +kernel
theorem dX9_valueOf_26 : decode cX9_valueOf 26 = .ok (.iload_n 1, 1) := by decide +kernel
theorem dX9_valueOf_27 : decode cX9_valueOf 27 = .ok (.iconst 1, 1) := by decide +kernel
theorem dX9_valueOf_28 : decode cX9_valueOf 28 = .ok (.isub, 1) := by decide +kernel
theorem dX9_valueOf_29 : decode cX9_valueOf 29 = .ok (.iaload, 1) := by decide +kernel
theorem dX9_valueOf_30 : decode cX9_valueOf 30 = .ok (.istore_n 3, 1) := by decide +kernel
theorem dX9_valueOf_31 : decode cX9_valueOf 31 = .ok (.aload_n 0, 1) := by decide +kernel
theorem dX9_valueOf_32 : decode cX9_valueOf 32 = .ok (.getfield 18, 3) := by decide +kernel
theorem dX9_valueOf_35 : decode cX9_valueOf 35 = .ok (.iload_n 1, 1) := by decide +kernel
theorem dX9_valueOf_36 : decode cX9_valueOf 36 = .ok (.iaload, 1) := by decide +kernel
theorem dX9_valueOf_37 : decode cX9_valueOf 37 = .ok (.istore 4, 2) := by decide +kernel
theorem dX9_valueOf_39 : decode cX9_valueOf 39 = .ok (.iconst 0, 1) := by decide +kernel
theorem dX9_valueOf_40 : decode cX9_valueOf 40 = .ok (.istore 5, 2) := by decide +kernel
theorem dX9_valueOf_42 : decode cX9_valueOf 42 = .ok (.iload_n 3, 1) := by decide +kernel
theorem dX9_valueOf_43 : decode cX9_valueOf 43 = .ok (.istore 6, 2) := by decide +kernel
theorem dX9_valueOf_45 : decode cX9_valueOf 45 = .ok (.iload 6, 2) := by decide +kernel
theorem dX9_valueOf_47 : decode cX9_valueOf 47 = .ok (.iload 4, 2) := by decide +kernel
theorem dX9_valueOf_49 : decode cX9_valueOf 49 = .ok (.if_icmp .ge 230, 3) := by decide +kernel
theorem dX9_valueOf_52 : decode cX9_valueOf 52 = .ok (.iload 6, 2) := by decide +kernel
theorem dX9_valueOf_54 : decode cX9_valueOf 54 = .ok (.aload_n 0, 1) := by decide +kernel
theorem dX9_valueOf_55 : decode cX9_valueOf 55 = .ok (.getfield 15, 3) := by decide +kernel
theorem dX9_valueOf_58 : decode cX9_valueOf 58 = .ok (.arraylength, 1) := by decide +kernel
theorem dX9_valueOf_59 : decode cX9_valueOf 59 = .ok (.if_icmp .ge 220, 3) := by decide +kernel
theorem dX9_valueOf_62 : decode cX9_valueOf 62 = .ok (.aload_n 0, 1) := by decide +kernel
theorem dX9_valueOf_63 : decode cX9_valueOf 63 = .ok (.getfield 15, 3) := by decide +kernel
theorem dX9_valueOf_66 : decode cX9_valueOf 66 = .ok (.iload 6, 2) := by decide +kernel
theorem dX9_valueOf_68 : decode cX9_valueOf 68 = .ok (.iaload, 1) := by decide +kernel
theorem dX9_valueOf_69 : decode cX9_valueOf 69 = .ok (.bipush 64, 2) := by decide +kernel
theorem dX9_valueOf_71 : decode cX9_valueOf 71 = .ok (.irem, 1) := by decide +kernel
theorem dX9_valueOf_72 : decode cX9_valueOf 72 = .ok (.istore 7, 2) := by decide +kernel
theorem dX9_valueOf_74 : decode cX9_valueOf 74 = .ok (.aload_n 0, 1) := by decide +kernel
theorem dX9_valueOf_75 : decode cX9_valueOf 75 = .ok (.getfield 15, 3) := by decide +kernel
theorem dX9_valueOf_78 : decode cX9_valueOf 78 = .ok (.iload 6, 2) := by decide +kernel
theorem dX9_valueOf_80 : decode cX9_valueOf 80 = .ok (.iaload, 1) := by decide +kernel
theorem dX9_valueOf_81 : decode cX9_valueOf 81 = .ok (.bipush 64, 2) := by decide +kernel
theorem dX9_valueOf_83 : decode cX9_valueOf 83 = .ok (.idiv, 1) := by decide +kernel
theorem dX9_valueOf_84 : decode cX9_valueOf 84 = .ok (.istore 8, 2) := by decide +kernel
theorem dX9_valueOf_86 : decode cX9_valueOf 86 = .ok (.iload 7, 2) := by decide +kernel
theorem dX9_valueOf_88 : decode cX9_valueOf 88 = .ok (.bipush 7, 2) := by decide +kernel
theorem dX9_valueOf_90 : decode cX9_valueOf 90 = .ok (.if_icmp .ne 25, 3) := by decide +kernel
theorem dX9_valueOf_93 : decode cX9_valueOf 93 = .ok (.iload 5, 2) := by decide +kernel
theorem dX9_valueOf_95 : decode cX9_valueOf 95 = .ok (.bipush 32, 2) := by decide +kernel
theorem dX9_valueOf_97 : decode cX9_valueOf 97 = .ok (.if_icmp .ge 18, 3) := by decide +kernel
theorem dX9_valueOf_100 : decode cX9_valueOf 100 = .ok (.aload_n 0, 1) := by decide +kernel
theorem dX9_valueOf_101 : decode cX9_valueOf 101 = .ok (.getfield 11, 3) := by decide +kernel
theorem dX9_valueOf_104 : decode cX9_valueOf 104 = .ok (.iload 5, 2) := by decide +kernel
theorem dX9_valueOf_106 : decode cX9_valueOf 106 = .ok (.iload 8, 2) := by decide +kernel
theorem dX9_valueOf_108 : decode cX9_valueOf 108 = .ok (.iastore, 1) := by decide +kernel
theorem dX9_valueOf_109 : decode cX9_valueOf 109 = .ok (.iinc 5 1, 3) := by decide +kernel
theorem dX9_valueOf_112 : decode cX9_valueOf 112 = .ok (.goto 161, 3) := by decide +kernel
theorem dX9_valueOf_115 : decode cX9_valueOf 115 = .ok (.iload 7, 2) := by decide +kernel
theorem dX9_valueOf_117 : decode cX9_valueOf 117 = .ok (.bipush 6, 2) := by decide +kernel
theorem dX9_valueOf_119 : decode cX9_valueOf 119 = .ok (.if_icmp .ne 34, 3) := by decide +kernel
theorem dX9_valueOf_122 : decode cX9_valueOf 122 = .ok (.iload 5, 2) := by decide +kernel
theorem dX9_valueOf_124 : decode cX9_valueOf 124 = .ok (.bipush 32, 2) := by decide +kernel
theorem dX9_valueOf_126 : decode cX9_valueOf 126 = .ok (.if_icmp .ge 27, 3) := by decide +kernel
theorem dX9_valueOf_129 : decode cX9_valueOf 129 = .ok (.iload 8, 2) := by decide +kernel
theorem dX9_valueOf_131 : decode cX9_valueOf 131 = .ok (.aload_n 2, 1) := by decide +kernel
theorem dX9_valueOf_132 : decode cX9_valueOf 132 = .ok (.arraylength, 1) := by decide +kernel
theorem dX9_valueOf_133 : decode cX9_valueOf 133 = .ok (.if_icmp .ge 20, 3) := by decide +kernel
theorem dX9_valueOf_136 : decode cX9_valueOf 136 = .ok (.aload_n 0, 1) := by decide +kernel
theorem dX9_valueOf_137 : decode cX9_valueOf 137 = .ok (.getfield 11, 3) := by decide +kernel
theorem dX9_valueOf_140 : decode cX9_valueOf 140 = .ok (.iload 5, 2) := by decide +kernel
theorem dX9_valueOf_142 : decode cX9_valueOf 142 = .ok (.aload_n 2, 1) := by decide +kernel
theorem dX9_valueOf_143 : decode cX9_valueOf 143 = .ok (.iload 8, 2) := by decide +kernel
theorem dX9_valueOf_145 : decode cX9_valueOf 145 = .ok (.iaload, 1) := by decide +kernel
theorem dX9_valueOf_146 : decode cX9_valueOf 146 = .ok (.iastore, 1) := by decide +kernel
theorem dX9_valueOf_147 : decode cX9_valueOf 147 = .ok (.iinc 5 1, 3) := by decide +kernel
theorem dX9_valueOf_150 : decode cX9_valueOf 150 = .ok (.goto 123, 3) := by decide +kernel
theorem dX9_valueOf_153 : decode cX9_valueOf 153 = .ok (.iload 7, 2) := by decide +kernel
theorem dX9_valueOf_155 : decode cX9_valueOf 155 = .ok (.iconst 5, 1) := by decide +kernel
theorem dX9_valueOf_156 : decode cX9_valueOf 156 = .ok (.if_icmp .ne 41, 3) := by decide +kernel
theorem dX9_valueOf_159 : decode cX9_valueOf 159 = .ok (.iload 5, 2) := by decide +kernel
theorem dX9_valueOf_161 : decode cX9_valueOf 161 = .ok (.iconst 1, 1) := by decide +kernel
theorem dX9_valueOf_162 : decode cX9_valueOf 162 = .ok (.if_icmp .lt 35, 3) := by decide +kernel
theorem dX9_valueOf_165 : decode cX9_valueOf 165 = .ok (.aload_n 0, 1) := by decide +kernel
theorem dX9_valueOf_166 : decode cX9_valueOf 166 = .ok (.getfield 11, 3) := by decide +kernel
theorem dX9_valueOf_169 : decode cX9_valueOf 169 = .ok (.iload 5, 2) := by decide +kernel
theorem dX9_valueOf_171 : decode cX9_valueOf 171 = .ok (.iconst 1, 1) := by decide +kernel
theorem dX9_valueOf_172 : decode cX9_valueOf 172 = .ok (.isub, 1) := by decide +kernel
theorem dX9_valueOf_173 : decode cX9_valueOf 173 = .ok (.aload_n 0, 1) := by decide +kernel
theorem dX9_valueOf_174 : decode cX9_valueOf 174 = .ok (.getfield 11, 3) := by decide +kernel
theorem dX9_valueOf_177 : decode cX9_valueOf 177 = .ok (.iload 5, 2) := by decide +kernel
theorem dX9_valueOf_179 : decode cX9_valueOf 179 = .ok (.iconst 1, 1) := by decide +kernel
theorem dX9_valueOf_180 : decode cX9_valueOf 180 = .ok (.isub, 1) := by decide +kernel
theorem dX9_valueOf_181 : decode cX9_valueOf 181 = .ok (.iaload, 1) := by decide +kernel
theorem dX9_valueOf_182 : decode cX9_valueOf 182 = .ok (.ifCond .ne 7, 3) := by decide +kernel
theorem dX9_valueOf_185 : decode cX9_valueOf 185 = .ok (.iconst 1, 1) := by decide +kernel
theorem dX9_valueOf_186 : decode cX9_valueOf 186 = .ok (.goto 4, 3) := by decide +kernel
theorem dX9_valueOf_189 : decode cX9_valueOf 189 = .ok (.iconst 0, 1) := by decide +kernel
theorem dX9_valueOf_190 : decode cX9_valueOf 190 = .ok (.invokestatic 27, 3) := by decide +kernel
theorem dX9_valueOf_193 : decode cX9_valueOf 193 = .ok (.iastore, 1) := by decide +kernel
theorem dX9_valueOf_194 : decode cX9_valueOf 194 = .ok (.goto 79, 3) := by decide +kernel
theorem dX9_valueOf_197 : decode cX9_valueOf 197 = .ok (.iload 7, 2) := by decide +kernel
theorem dX9_valueOf_199 : decode cX9_valueOf 199 = .ok (.bipush 8, 2) := by decide +kernel
theorem dX9_valueOf_201 : decode cX9_valueOf 201 = .ok (.if_icmp .ne 31, 3) := by decide +kernel
theorem dX9_valueOf_204 : decode cX9_valueOf 204 = .ok (.iload 5, 2) := by decide +kernel
theorem dX9_valueOf_206 : decode cX9_valueOf 206 = .ok (.iconst 1, 1) := by decide +kernel
theorem dX9_valueOf_207 : decode cX9_valueOf 207 = .ok (.if_icmp .lt 25, 3) := by decide +kernel
theorem dX9_valueOf_210 : decode cX9_valueOf 210 = .ok (.aload_n 0, 1) := by decide +kernel
theorem dX9_valueOf_211 : decode cX9_valueOf 211 = .ok (.getfield 11, 3) := by decide +kernel
theorem dX9_valueOf_214 : decode cX9_valueOf 214 = .ok (.iload 5, 2) := by decide +kernel
theorem dX9_valueOf_216 : decode cX9_valueOf 216 = .ok (.iconst 1, 1) := by decide +kernel
theorem dX9_valueOf_217 : decode cX9_valueOf 217 = .ok (.isub, 1) := by decide +kernel
theorem dX9_valueOf_218 : decode cX9_valueOf 218 = .ok (.aload_n 0, 1) := by decide +kernel
theorem dX9_valueOf_219 : decode cX9_valueOf 219 = .ok (.getfield 11, 3) := by decide +kernel
theorem dX9_valueOf_222 : decode cX9_valueOf 222 = .ok (.iload 5, 2) := by decide +kernel
theorem dX9_valueOf_224 : decode cX9_valueOf 224 = .ok (.iconst 1, 1) := by decide +kernel
theorem dX9_valueOf_225 : decode cX9_valueOf 225 = .ok (.isub, 1) := by decide +kernel
theorem dX9_valueOf_226 : decode cX9_valueOf 226 = .ok (.iaload, 1) := by decide +kernel
theorem dX9_valueOf_227 : decode cX9_valueOf 227 = .ok (.ineg, 1) := by decide +kernel
theorem dX9_valueOf_228 : decode cX9_valueOf 228 = .ok (.iastore, 1) := by decide +kernel
theorem dX9_valueOf_229 : decode cX9_valueOf 229 = .ok (.goto 44, 3) := by decide +kernel
theorem dX9_valueOf_232 : decode cX9_valueOf 232 = .ok (.iload 5, 2) := by decide +kernel
theorem dX9_valueOf_234 : decode cX9_valueOf 234 = .ok (.iconst 2, 1) := by decide +kernel
theorem dX9_valueOf_235 : decode cX9_valueOf 235 = .ok (.if_icmp .lt 38, 3) := by decide +kernel
theorem dX9_valueOf_238 : decode cX9_valueOf 238 = .ok (.aload_n 0, 1) := by decide +kernel
theorem dX9_valueOf_239 : decode cX9_valueOf 239 = .ok (.getfield 11, 3) := by decide +kernel
theorem dX9_valueOf_242 : decode cX9_valueOf 242 = .ok (.iload 5, 2) := by decide +kernel
theorem dX9_valueOf_244 : decode cX9_valueOf 244 = .ok (.iconst 2, 1) := by decide +kernel
theorem dX9_valueOf_245 : decode cX9_valueOf 245 = .ok (.isub, 1) := by decide +kernel
theorem dX9_valueOf_246 : decode cX9_valueOf 246 = .ok (.iload 7, 2) := by decide +kernel
theorem dX9_valueOf_248 : decode cX9_valueOf 248 = .ok (.aload_n 0, 1) := by decide +kernel
theorem dX9_valueOf_249 : decode cX9_valueOf 249 = .ok (.getfield 11, 3) := by decide +kernel
theorem dX9_valueOf_252 : decode cX9_valueOf 252 = .ok (.iload 5, 2) := by decide +kernel
theorem dX9_valueOf_254 : decode cX9_valueOf 254 = .ok (.iconst 2, 1) := by decide +kernel
theorem dX9_valueOf_255 : decode cX9_valueOf 255 = .ok (.isub, 1) := by decide +kernel
theorem dX9_valueOf_256 : decode cX9_valueOf 256 = .ok (.iaload, 1) := by decide +kernel
theorem dX9_valueOf_257 : decode cX9_valueOf 257 = .ok (.aload_n 0, 1) := by decide +kernel
theorem dX9_valueOf_258 : decode cX9_valueOf 258 = .ok (.getfield 11, 3) := by decide +kernel
theorem dX9_valueOf_261 : decode cX9_valueOf 261 = .ok (.iload 5, 2) := by decide +kernel
theorem dX9_valueOf_263 : decode cX9_valueOf 263 = .ok (.iconst 1, 1) := by decide +kernel
theorem dX9_valueOf_264 : decode cX9_valueOf 264 = .ok (.isub, 1) := by decide +kernel
theorem dX9_valueOf_265 : decode cX9_valueOf 265 = .ok (.iaload, 1) := by decide +kernel
theorem dX9_valueOf_266 : decode cX9_valueOf 266 = .ok (.invokestatic 31, 3) := by decide +kernel
theorem dX9_valueOf_269 : decode cX9_valueOf 269 = .ok (.iastore, 1) := by decide +kernel
theorem dX9_valueOf_270 : decode cX9_valueOf 270 = .ok (.iinc 5 (-1), 3) := by decide +kernel
theorem dX9_valueOf_273 : decode cX9_valueOf 273 = .ok (.iinc 6 1, 3) := by decide +kernel
theorem dX9_valueOf_276 : decode cX9_valueOf 276 = .ok (.goto (-231), 3) := by decide +kernel
theorem dX9_valueOf_279 : decode cX9_valueOf 279 = .ok (.aload_n 0, 1) := by decide +kernel
theorem dX9_valueOf_280 : decode cX9_valueOf 280 = .ok (.getfield 11, 3) := by decide +kernel
theorem dX9_valueOf_283 : decode cX9_valueOf 283 = .ok (.iconst 0, 1) := by decide +kernel
theorem dX9_valueOf_284 : decode cX9_valueOf 284 = .ok (.iaload, 1) := by decide +kernel
theorem dX9_valueOf_285 : decode cX9_valueOf 285 = .ok (.ireturn, 1) := by decide +kernel
theorem dX9_joined_0 : decode cX9_joined 0 = .ok (.iload_n 0, 1) := by decide +kernel
theorem dX9_joined_1 : decode cX9_joined 1 = .ok (.lookupswitch 117 #[(3, 59), (4, 73), (43, 109), (45, 113), (60, 87), (61, 98)], 59) := by decide +kernel
theorem dX9_joined_60 : decode cX9_joined 60 = .ok (.iload_n 1, 1) := by decide +kernel
theorem dX9_joined_61 : decode cX9_joined 61 = .ok (.ifCond .ne 7, 3) := by decide +kernel
theorem dX9_joined_64 : decode cX9_joined 64 = .ok (.iload_n 2, 1) := by decide +kernel
theorem dX9_joined_65 : decode cX9_joined 65 = .ok (.ifCond .eq 7, 3) := by decide +kernel
theorem dX9_joined_68 : decode cX9_joined 68 = .ok (.iconst 1, 1) := by decide +kernel
theorem dX9_joined_69 : decode cX9_joined 69 = .ok (.goto 4, 3) := by decide +kernel
theorem dX9_joined_72 : decode cX9_joined 72 = .ok (.iconst 0, 1) := by decide +kernel
theorem dX9_joined_73 : decode cX9_joined 73 = .ok (.ireturn, 1) := by decide +kernel
theorem dX9_joined_74 : decode cX9_joined 74 = .ok (.iload_n 1, 1) := by decide +kernel
theorem dX9_joined_75 : decode cX9_joined 75 = .ok (.ifCond .eq 11, 3) := by decide +kernel
theorem dX9_joined_78 : decode cX9_joined 78 = .ok (.iload_n 2, 1) := by decide +kernel
theorem dX9_joined_79 : decode cX9_joined 79 = .ok (.ifCond .eq 7, 3) := by decide +kernel
theorem dX9_joined_82 : decode cX9_joined 82 = .ok (.iconst 1, 1) := by decide +kernel
theorem dX9_joined_83 : decode cX9_joined 83 = .ok (.goto 4, 3) := by decide +kernel
theorem dX9_joined_86 : decode cX9_joined 86 = .ok (.iconst 0, 1) := by decide +kernel
theorem dX9_joined_87 : decode cX9_joined 87 = .ok (.ireturn, 1) := by decide +kernel
theorem dX9_joined_88 : decode cX9_joined 88 = .ok (.iload_n 1, 1) := by decide +kernel
theorem dX9_joined_89 : decode cX9_joined 89 = .ok (.iload_n 2, 1) := by decide +kernel
theorem dX9_joined_90 : decode cX9_joined 90 = .ok (.if_icmp .ge 7, 3) := by decide +kernel
theorem dX9_joined_93 : decode cX9_joined 93 = .ok (.iconst 1, 1) := by decide +kernel
theorem dX9_joined_94 : decode cX9_joined 94 = .ok (.goto 4, 3) := by decide +kernel
theorem dX9_joined_97 : decode cX9_joined 97 = .ok (.iconst 0, 1) := by decide +kernel
theorem dX9_joined_98 : decode cX9_joined 98 = .ok (.ireturn, 1) := by decide +kernel
theorem dX9_joined_99 : decode cX9_joined 99 = .ok (.iload_n 1, 1) := by decide +kernel
theorem dX9_joined_100 : decode cX9_joined 100 = .ok (.iload_n 2, 1) := by decide +kernel
theorem dX9_joined_101 : decode cX9_joined 101 = .ok (.if_icmp .ne 7, 3) := by decide +kernel
theorem dX9_joined_104 : decode cX9_joined 104 = .ok (.iconst 1, 1) := by decide +kernel
theorem dX9_joined_105 : decode cX9_joined 105 = .ok (.goto 4, 3) := by decide +kernel
theorem dX9_joined_108 : decode cX9_joined 108 = .ok (.iconst 0, 1) := by decide +kernel
theorem dX9_joined_109 : decode cX9_joined 109 = .ok (.ireturn, 1) := by decide +kernel
theorem dX9_joined_110 : decode cX9_joined 110 = .ok (.iload_n 1, 1) := by decide +kernel
theorem dX9_joined_111 : decode cX9_joined 111 = .ok (.iload_n 2, 1) := by decide +kernel
theorem dX9_joined_112 : decode cX9_joined 112 = .ok (.iadd, 1) := by decide +kernel
theorem dX9_joined_113 : decode cX9_joined 113 = .ok (.ireturn, 1) := by decide +kernel
theorem dX9_joined_114 : decode cX9_joined 114 = .ok (.iload_n 1, 1) := by decide +kernel
theorem dX9_joined_115 : decode cX9_joined 115 = .ok (.iload_n 2, 1) := by decide +kernel
theorem dX9_joined_116 : decode cX9_joined 116 = .ok (.isub, 1) := by decide +kernel
theorem dX9_joined_117 : decode cX9_joined 117 = .ok (.ireturn, 1) := by decide +kernel
theorem dX9_joined_118 : decode cX9_joined 118 = .ok (.iload_n 1, 1) := by decide +kernel
theorem dX9_joined_119 : decode cX9_joined 119 = .ok (.iload_n 2, 1) := by decide +kernel
theorem dX9_joined_120 : decode cX9_joined 120 = .ok (.imul, 1) := by decide +kernel
theorem dX9_joined_121 : decode cX9_joined 121 = .ok (.ireturn, 1) := by decide +kernel
theorem dX10_init_0 : decode cX10_init 0 = .ok (.aload_n 0, 1) := by decide +kernel
theorem dX10_init_1 : decode cX10_init 1 = .ok (.iload_n 1, 1) := by decide +kernel
theorem dX10_init_2 : decode cX10_init 2 = .ok (.iload_n 2, 1) := by decide +kernel
theorem dX10_init_3 : decode cX10_init 3 = .ok (.iload_n 3, 1) := by decide +kernel
theorem dX10_init_4 : decode cX10_init 4 = .ok (.invokespecial 1, 3) := by decide +kernel
theorem dX10_init_7 : decode cX10_init 7 = .ok (.return_, 1) := by decide +kernel
theorem dX10_kind_0 : decode cX10_kind 0 = .ok (.iconst 2, 1) := by decide +kernel
theorem dX10_kind_1 : decode cX10_kind 1 = .ok (.ireturn, 1) := by decide +kernel
theorem dX10_isUnder_0 : decode cX10_isUnder 0 = .ok (.iload_n 1, 1) := by decide +kernel
theorem dX10_isUnder_1 : decode cX10_isUnder 1 = .ok (.iconst 2, 1) := by decide +kernel
theorem dX10_isUnder_2 : decode cX10_isUnder 2 = .ok (.if_icmp .eq 11, 3) := by decide +kernel
theorem dX10_isUnder_5 : decode cX10_isUnder 5 = .ok (.aload_n 0, 1) := by decide +kernel
theorem dX10_isUnder_6 : decode cX10_isUnder 6 = .ok (.iload_n 1, 1) := by decide +kernel
theorem dX10_isUnder_7 : decode cX10_isUnder 7 = .ok (.invokespecial 9, 3) := by decide +kernel
theorem dX10_isUnder_10 : decode cX10_isUnder 10 = .ok (.ifCond .eq 7, 3) := by decide +kernel
theorem dX10_isUnder_13 : decode cX10_isUnder 13 = .ok (.iconst 1, 1) := by decide +kernel
theorem dX10_isUnder_14 : decode cX10_isUnder 14 = .ok (.goto 4, 3) := by decide +kernel
theorem dX10_isUnder_17 : decode cX10_isUnder 17 = .ok (.iconst 0, 1) := by decide +kernel
theorem dX10_isUnder_18 : decode cX10_isUnder 18 = .ok (.ireturn, 1) := by decide +kernel
theorem dX10_reach_0 : decode cX10_reach 0 = .ok (.aload_n 0, 1) := by decide +kernel
theorem dX10_reach_1 : decode cX10_reach 1 = .ok (.iload_n 1, 1) := by decide +kernel
theorem dX10_reach_2 : decode cX10_reach 2 = .ok (.iload_n 2, 1) := by decide +kernel
theorem dX10_reach_3 : decode cX10_reach 3 = .ok (.invokespecial 13, 3) := by decide +kernel
theorem dX10_reach_6 : decode cX10_reach 6 = .ok (.iload_n 2, 1) := by decide +kernel
theorem dX10_reach_7 : decode cX10_reach 7 = .ok (.isub, 1) := by decide +kernel
theorem dX10_reach_8 : decode cX10_reach 8 = .ok (.ireturn, 1) := by decide +kernel
theorem dX10_silentSteps_0 : decode cX10_silentSteps 0 = .ok (.aload_n 0, 1) := by decide +kernel
theorem dX10_silentSteps_1 : decode cX10_silentSteps 1 = .ok (.iload_n 1, 1) := by decide +kernel
theorem dX10_silentSteps_2 : decode cX10_silentSteps 2 = .ok (.invokespecial 17, 3) := by decide +kernel
theorem dX10_silentSteps_5 : decode cX10_silentSteps 5 = .ok (.iload_n 1, 1) := by decide +kernel
theorem dX10_silentSteps_6 : decode cX10_silentSteps 6 = .ok (.iconst 3, 1) := by decide +kernel
theorem dX10_silentSteps_7 : decode cX10_silentSteps 7 = .ok (.if_icmp .lt 7, 3) := by decide +kernel
theorem dX10_silentSteps_10 : decode cX10_silentSteps 10 = .ok (.iconst 1, 1) := by decide +kernel
theorem dX10_silentSteps_11 : decode cX10_silentSteps 11 = .ok (.goto 4, 3) := by decide +kernel
theorem dX10_silentSteps_14 : decode cX10_silentSteps 14 = .ok (.iconst 0, 1) := by decide +kernel
theorem dX10_silentSteps_15 : decode cX10_silentSteps 15 = .ok (.invokestatic 21, 3) := by decide +kernel
theorem dX10_silentSteps_18 : decode cX10_silentSteps 18 = .ok (.iadd, 1) := by decide +kernel
theorem dX10_silentSteps_19 : decode cX10_silentSteps 19 = .ok (.ireturn, 1) := by decide +kernel
theorem dX11_init_0 : decode cX11_init 0 = .ok (.aload_n 0, 1) := by decide +kernel
theorem dX11_init_1 : decode cX11_init 1 = .ok (.invokespecial 1, 3) := by decide +kernel
theorem dX11_init_4 : decode cX11_init 4 = .ok (.aload_n 0, 1) := by decide +kernel
theorem dX11_init_5 : decode cX11_init 5 = .ok (.new 7, 3) := by decide +kernel
theorem dX11_init_8 : decode cX11_init 8 = .ok (.dup, 1) := by decide +kernel
theorem dX11_init_9 : decode cX11_init 9 = .ok (.invokespecial 9, 3) := by decide +kernel
theorem dX11_init_12 : decode cX11_init 12 = .ok (.putfield 10, 3) := by decide +kernel
theorem dX11_init_15 : decode cX11_init 15 = .ok (.aload_n 0, 1) := by decide +kernel
theorem dX11_init_16 : decode cX11_init 16 = .ok (.new 7, 3) := by decide +kernel
theorem dX11_init_19 : decode cX11_init 19 = .ok (.dup, 1) := by decide +kernel
theorem dX11_init_20 : decode cX11_init 20 = .ok (.invokespecial 9, 3) := by decide +kernel
theorem dX11_init_23 : decode cX11_init 23 = .ok (.putfield 16, 3) := by decide +kernel
theorem dX11_init_26 : decode cX11_init 26 = .ok (.aload_n 0, 1) := by decide +kernel
theorem dX11_init_27 : decode cX11_init 27 = .ok (.iconst (-1), 1) := by decide +kernel
theorem dX11_init_28 : decode cX11_init 28 = .ok (.putfield 19, 3) := by decide +kernel
theorem dX11_init_31 : decode cX11_init 31 = .ok (.aload_n 0, 1) := by decide +kernel
theorem dX11_init_32 : decode cX11_init 32 = .ok (.bipush 10, 2) := by decide +kernel
theorem dX11_init_34 : decode cX11_init 34 = .ok (.anewarray 23, 3) := by decide +kernel
theorem dX11_init_37 : decode cX11_init 37 = .ok (.putfield 25, 3) := by decide +kernel
theorem dX11_init_40 : decode cX11_init 40 = .ok (.aload_n 0, 1) := by decide +kernel
theorem dX11_init_41 : decode cX11_init 41 = .ok (.iconst 0, 1) := by decide +kernel
theorem dX11_init_42 : decode cX11_init 42 = .ok (.putfield 29, 3) := by decide +kernel
theorem dX11_init_45 : decode cX11_init 45 = .ok (.aload_n 0, 1) := by decide +kernel
theorem dX11_init_46 : decode cX11_init 46 = .ok (.new 32, 3) := by decide +kernel
theorem dX11_init_49 : decode cX11_init 49 = .ok (.dup, 1) := by decide +kernel
theorem dX11_init_50 : decode cX11_init 50 = .ok (.invokespecial 34, 3) := by decide +kernel
theorem dX11_init_53 : decode cX11_init 53 = .ok (.putfield 35, 3) := by decide +kernel
theorem dX11_init_56 : decode cX11_init 56 = .ok (.aload_n 0, 1) := by decide +kernel
theorem dX11_init_57 : decode cX11_init 57 = .ok (.bipush 6, 2) := by decide +kernel
theorem dX11_init_59 : decode cX11_init 59 = .ok (.anewarray 39, 3) := by decide +kernel
theorem dX11_init_62 : decode cX11_init 62 = .ok (.putfield 41, 3) := by decide +kernel
theorem dX11_init_65 : decode cX11_init 65 = .ok (.aload_n 0, 1) := by decide +kernel
theorem dX11_init_66 : decode cX11_init 66 = .ok (.iconst 0, 1) := by decide +kernel
theorem dX11_init_67 : decode cX11_init 67 = .ok (.putfield 45, 3) := by decide +kernel
theorem dX11_init_70 : decode cX11_init 70 = .ok (.aload_n 0, 1) := by decide +kernel
theorem dX11_init_71 : decode cX11_init 71 = .ok (.iconst 4, 1) := by decide +kernel
theorem dX11_init_72 : decode cX11_init 72 = .ok (.anewarray 48, 3) := by decide +kernel
theorem dX11_init_75 : decode cX11_init 75 = .ok (.putfield 50, 3) := by decide +kernel
theorem dX11_init_78 : decode cX11_init 78 = .ok (.aload_n 0, 1) := by decide +kernel
theorem dX11_init_79 : decode cX11_init 79 = .ok (.new 54, 3) := by decide +kernel
theorem dX11_init_82 : decode cX11_init 82 = .ok (.dup, 1) := by decide +kernel
theorem dX11_init_83 : decode cX11_init 83 = .ok (.aload_n 0, 1) := by decide +kernel
theorem dX11_init_84 : decode cX11_init 84 = .ok (.getfield 10, 3) := by decide +kernel
theorem dX11_init_87 : decode cX11_init 87 = .ok (.aload_n 0, 1) := by decide +kernel
theorem dX11_init_88 : decode cX11_init 88 = .ok (.getfield 25, 3) := by decide +kernel
theorem dX11_init_91 : decode cX11_init 91 = .ok (.invokespecial 56, 3) := by decide +kernel
theorem dX11_init_94 : decode cX11_init 94 = .ok (.putfield 59, 3) := by decide +kernel
theorem dX11_init_97 : decode cX11_init 97 = .ok (.aload_n 0, 1) := by decide +kernel
theorem dX11_init_98 : decode cX11_init 98 = .ok (.sipush 200, 3) := by decide +kernel
theorem dX11_init_101 : decode cX11_init 101 = .ok (.newarray .long, 2) := by decide +kernel
theorem dX11_init_103 : decode cX11_init 103 = .ok (.putfield 63, 3) := by decide +kernel
theorem dX11_init_106 : decode cX11_init 106 = .ok (.aload_n 0, 1) := by decide +kernel
theorem dX11_init_107 : decode cX11_init 107 = .ok (.sipush 200, 3) := by decide +kernel
theorem dX11_init_110 : decode cX11_init 110 = .ok (.newarray .long, 2) := by decide +kernel
theorem dX11_init_112 : decode cX11_init 112 = .ok (.putfield 67, 3) := by decide +kernel
theorem dX11_init_115 : decode cX11_init 115 = .ok (.iconst 0, 1) := by decide +kernel
theorem dX11_init_116 : decode cX11_init 116 = .ok (.istore_n 1, 1) := by decide +kernel
theorem dX11_init_117 : decode cX11_init 117 = .ok (.iload_n 1, 1) := by decide +kernel
theorem dX11_init_118 : decode cX11_init 118 = .ok (.iconst 4, 1) := by decide +kernel
theorem dX11_init_119 : decode cX11_init 119 = .ok (.if_icmp .ge 22, 3) := by decide +kernel
theorem dX11_init_122 : decode cX11_init 122 = .ok (.aload_n 0, 1) := by decide +kernel
theorem dX11_init_123 : decode cX11_init 123 = .ok (.getfield 50, 3) := by decide +kernel
theorem dX11_init_126 : decode cX11_init 126 = .ok (.iload_n 1, 1) := by decide +kernel
theorem dX11_init_127 : decode cX11_init 127 = .ok (.new 48, 3) := by decide +kernel
theorem dX11_init_130 : decode cX11_init 130 = .ok (.dup, 1) := by decide +kernel
theorem dX11_init_131 : decode cX11_init 131 = .ok (.invokespecial 70, 3) := by decide +kernel
theorem dX11_init_134 : decode cX11_init 134 = .ok (.aastore, 1) := by decide +kernel
theorem dX11_init_135 : decode cX11_init 135 = .ok (.iinc 1 1, 3) := by decide +kernel
theorem dX11_init_138 : decode cX11_init 138 = .ok (.goto (-21), 3) := by decide +kernel
theorem dX11_init_141 : decode cX11_init 141 = .ok (.iconst 0, 1) := by decide +kernel
theorem dX11_init_142 : decode cX11_init 142 = .ok (.istore_n 1, 1) := by decide +kernel
theorem dX11_init_143 : decode cX11_init 143 = .ok (.iload_n 1, 1) := by decide +kernel
theorem dX11_init_144 : decode cX11_init 144 = .ok (.ldc 71, 2) := by decide +kernel
theorem dX11_init_146 : decode cX11_init 146 = .ok (.invokevirtual 73, 3) := by decide +kernel
theorem dX11_init_149 : decode cX11_init 149 = .ok (.if_icmp .ge 22, 3) := by decide +kernel
theorem dX11_init_152 : decode cX11_init 152 = .ok (.aload_n 0, 1) := by decide +kernel
theorem dX11_init_153 : decode cX11_init 153 = .ok (.getfield 35, 3) := by decide +kernel
theorem dX11_init_156 : decode cX11_init 156 = .ok (.ldc 71, 2) := by decide +kernel
theorem dX11_init_158 : decode cX11_init 158 = .ok (.iload_n 1, 1) := by decide +kernel
theorem dX11_init_159 : decode cX11_init 159 = .ok (.invokevirtual 79, 3) := by decide +kernel
theorem dX11_init_162 : decode cX11_init 162 = .ok (.invokevirtual 83, 3) := by decide +kernel
theorem dX11_init_165 : decode cX11_init 165 = .ok (.iinc 1 1, 3) := by decide +kernel
theorem dX11_init_168 : decode cX11_init 168 = .ok (.goto (-25), 3) := by decide +kernel
theorem dX11_init_171 : decode cX11_init 171 = .ok (.aload_n 0, 1) := by decide +kernel
theorem dX11_init_172 : decode cX11_init 172 = .ok (.aload_n 0, 1) := by decide +kernel
theorem dX11_init_173 : decode cX11_init 173 = .ok (.getfield 35, 3) := by decide +kernel
theorem dX11_init_176 : decode cX11_init 176 = .ok (.invokevirtual 87, 3) := by decide +kernel
theorem dX11_init_179 : decode cX11_init 179 = .ok (.invokevirtual 91, 3) := by decide +kernel
theorem dX11_init_182 : decode cX11_init 182 = .ok (.aload_n 0, 1) := by decide +kernel
theorem dX11_init_183 : decode cX11_init 183 = .ok (.getfield 35, 3) := by decide +kernel
theorem dX11_init_186 : decode cX11_init 186 = .ok (.invokevirtual 95, 3) := by decide +kernel
theorem dX11_init_189 : decode cX11_init 189 = .ok (.return_, 1) := by decide +kernel
theorem dX11_set_0 : decode cX11_set 0 = .ok (.bipush (-2), 2) := by decide +kernel
theorem dX11_set_2 : decode cX11_set 2 = .ok (.istore 4, 2) := by decide +kernel
theorem dX11_set_4 : decode cX11_set 4 = .ok (.iload_n 1, 1) := by decide +kernel
theorem dX11_set_5 : decode cX11_set 5 = .ok (.ifCond .ne 22, 3) := by decide +kernel
theorem dX11_set_8 : decode cX11_set 8 = .ok (.aload_n 0, 1) := by decide +kernel
theorem dX11_set_9 : decode cX11_set 9 = .ok (.getfield 10, 3) := by decide +kernel
theorem dX11_set_12 : decode cX11_set 12 = .ok (.getfield 98, 3) := by decide +kernel
theorem dX11_set_15 : decode cX11_set 15 = .ok (.iload_n 2, 1) := by decide +kernel
theorem dX11_set_16 : decode cX11_set 16 = .ok (.iload_n 3, 1) := by decide +kernel
theorem dX11_set_17 : decode cX11_set 17 = .ok (.bipush 10, 2) := by decide +kernel
theorem dX11_set_19 : decode cX11_set 19 = .ok (.invokestatic 102, 3) := by decide +kernel
theorem dX11_set_22 : decode cX11_set 22 = .ok (.istore 4, 2) := by decide +kernel
theorem dX11_set_24 : decode cX11_set 24 = .ok (.goto 140, 3) := by decide +kernel
theorem dX11_set_27 : decode cX11_set 27 = .ok (.iload_n 1, 1) := by decide +kernel
theorem dX11_set_28 : decode cX11_set 28 = .ok (.iconst 1, 1) := by decide +kernel
theorem dX11_set_29 : decode cX11_set 29 = .ok (.if_icmp .ne 21, 3) := by decide +kernel
theorem dX11_set_32 : decode cX11_set 32 = .ok (.aload_n 0, 1) := by decide +kernel
theorem dX11_set_33 : decode cX11_set 33 = .ok (.getfield 10, 3) := by decide +kernel
theorem dX11_set_36 : decode cX11_set 36 = .ok (.getfield 106, 3) := by decide +kernel
theorem dX11_set_39 : decode cX11_set 39 = .ok (.iload_n 2, 1) := by decide +kernel
theorem dX11_set_40 : decode cX11_set 40 = .ok (.iload_n 3, 1) := by decide +kernel
theorem dX11_set_41 : decode cX11_set 41 = .ok (.iconst 2, 1) := by decide +kernel
theorem dX11_set_42 : decode cX11_set 42 = .ok (.invokestatic 102, 3) := by decide +kernel
theorem dX11_set_45 : decode cX11_set 45 = .ok (.istore 4, 2) := by decide +kernel
theorem dX11_set_47 : decode cX11_set 47 = .ok (.goto 117, 3) := by decide +kernel
theorem dX11_set_50 : decode cX11_set 50 = .ok (.iload_n 1, 1) := by decide +kernel
theorem dX11_set_51 : decode cX11_set 51 = .ok (.iconst 2, 1) := by decide +kernel
theorem dX11_set_52 : decode cX11_set 52 = .ok (.if_icmp .ne 21, 3) := by decide +kernel
theorem dX11_set_55 : decode cX11_set 55 = .ok (.aload_n 0, 1) := by decide +kernel
theorem dX11_set_56 : decode cX11_set 56 = .ok (.getfield 10, 3) := by decide +kernel
theorem dX11_set_59 : decode cX11_set 59 = .ok (.getfield 109, 3) := by decide +kernel
theorem dX11_set_62 : decode cX11_set 62 = .ok (.iload_n 2, 1) := by decide +kernel
theorem dX11_set_63 : decode cX11_set 63 = .ok (.iload_n 3, 1) := by decide +kernel
theorem dX11_set_64 : decode cX11_set 64 = .ok (.iconst 2, 1) := by decide +kernel
theorem dX11_set_65 : decode cX11_set 65 = .ok (.invokestatic 102, 3) := by decide +kernel
theorem dX11_set_68 : decode cX11_set 68 = .ok (.istore 4, 2) := by decide +kernel
theorem dX11_set_70 : decode cX11_set 70 = .ok (.goto 94, 3) := by decide +kernel
theorem dX11_set_73 : decode cX11_set 73 = .ok (.iload_n 1, 1) := by decide +kernel
theorem dX11_set_74 : decode cX11_set 74 = .ok (.iconst 3, 1) := by decide +kernel
theorem dX11_set_75 : decode cX11_set 75 = .ok (.if_icmp .ne 22, 3) := by decide +kernel
theorem dX11_set_78 : decode cX11_set 78 = .ok (.aload_n 0, 1) := by decide +kernel
theorem dX11_set_79 : decode cX11_set 79 = .ok (.getfield 10, 3) := by decide +kernel
theorem dX11_set_82 : decode cX11_set 82 = .ok (.getfield 112, 3) := by decide +kernel
theorem dX11_set_85 : decode cX11_set 85 = .ok (.iload_n 2, 1) := by decide +kernel
theorem dX11_set_86 : decode cX11_set 86 = .ok (.iload_n 3, 1) := by decide +kernel
theorem dX11_set_87 : decode cX11_set 87 = .ok (.bipush 10, 2) := by decide +kernel
theorem dX11_set_89 : decode cX11_set 89 = .ok (.invokestatic 102, 3) := by decide +kernel
theorem dX11_set_92 : decode cX11_set 92 = .ok (.istore 4, 2) := by decide +kernel
theorem dX11_set_94 : decode cX11_set 94 = .ok (.goto 70, 3) := by decide +kernel
theorem dX11_set_97 : decode cX11_set 97 = .ok (.iload_n 1, 1) := by decide +kernel
theorem dX11_set_98 : decode cX11_set 98 = .ok (.iconst 4, 1) := by decide +kernel
theorem dX11_set_99 : decode cX11_set 99 = .ok (.if_icmp .ne 34, 3) := by decide +kernel
theorem dX11_set_102 : decode cX11_set 102 = .ok (.iload_n 3, 1) := by decide +kernel
theorem dX11_set_103 : decode cX11_set 103 = .ok (.iconst 1, 1) := by decide +kernel
theorem dX11_set_104 : decode cX11_set 104 = .ok (.if_icmp .lt 29, 3) := by decide +kernel
theorem dX11_set_107 : decode cX11_set 107 = .ok (.iload_n 3, 1) := by decide +kernel
theorem dX11_set_108 : decode cX11_set 108 = .ok (.bipush 48, 2) := by decide +kernel
theorem dX11_set_110 : decode cX11_set 110 = .ok (.if_icmp .gt 23, 3) := by decide +kernel
theorem dX11_set_113 : decode cX11_set 113 = .ok (.aload_n 0, 1) := by decide +kernel
theorem dX11_set_114 : decode cX11_set 114 = .ok (.getfield 10, 3) := by decide +kernel
theorem dX11_set_117 : decode cX11_set 117 = .ok (.getfield 115, 3) := by decide +kernel
theorem dX11_set_120 : decode cX11_set 120 = .ok (.istore 4, 2) := by decide +kernel
theorem dX11_set_122 : decode cX11_set 122 = .ok (.aload_n 0, 1) := by decide +kernel
theorem dX11_set_123 : decode cX11_set 123 = .ok (.getfield 10, 3) := by decide +kernel
theorem dX11_set_126 : decode cX11_set 126 = .ok (.iload_n 3, 1) := by decide +kernel
theorem dX11_set_127 : decode cX11_set 127 = .ok (.putfield 115, 3) := by decide +kernel
theorem dX11_set_130 : decode cX11_set 130 = .ok (.goto 34, 3) := by decide +kernel
theorem dX11_set_133 : decode cX11_set 133 = .ok (.iload_n 1, 1) := by decide +kernel
theorem dX11_set_134 : decode cX11_set 134 = .ok (.iconst 5, 1) := by decide +kernel
theorem dX11_set_135 : decode cX11_set 135 = .ok (.if_icmp .ne 29, 3) := by decide +kernel
theorem dX11_set_138 : decode cX11_set 138 = .ok (.iload_n 3, 1) := by decide +kernel
theorem dX11_set_139 : decode cX11_set 139 = .ok (.bipush 6, 2) := by decide +kernel
theorem dX11_set_141 : decode cX11_set 141 = .ok (.invokestatic 118, 3) := by decide +kernel
theorem dX11_set_144 : decode cX11_set 144 = .ok (.ifCond .ne 20, 3) := by decide +kernel
theorem dX11_set_147 : decode cX11_set 147 = .ok (.aload_n 0, 1) := by decide +kernel
theorem dX11_set_148 : decode cX11_set 148 = .ok (.getfield 10, 3) := by decide +kernel
theorem dX11_set_151 : decode cX11_set 151 = .ok (.getfield 122, 3) := by decide +kernel
theorem dX11_set_154 : decode cX11_set 154 = .ok (.istore 4, 2) := by decide +kernel
theorem dX11_set_156 : decode cX11_set 156 = .ok (.aload_n 0, 1) := by decide +kernel
theorem dX11_set_157 : decode cX11_set 157 = .ok (.getfield 10, 3) := by decide +kernel
theorem dX11_set_160 : decode cX11_set 160 = .ok (.iload_n 3, 1) := by decide +kernel
theorem dX11_set_161 : decode cX11_set 161 = .ok (.putfield 122, 3) := by decide +kernel
theorem dX11_set_164 : decode cX11_set 164 = .ok (.iload 4, 2) := by decide +kernel
theorem dX11_set_166 : decode cX11_set 166 = .ok (.ireturn, 1) := by decide +kernel
theorem dX11_singer_0 : decode cX11_singer 0 = .ok (.iload_n 2, 1) := by decide +kernel
theorem dX11_singer_1 : decode cX11_singer 1 = .ok (.sipush 1000, 3) := by decide +kernel
theorem dX11_singer_4 : decode cX11_singer 4 = .ok (.idiv, 1) := by decide +kernel
theorem dX11_singer_5 : decode cX11_singer 5 = .ok (.istore 4, 2) := by decide +kernel
theorem dX11_singer_7 : decode cX11_singer 7 = .ok (.iload_n 2, 1) := by decide +kernel
theorem dX11_singer_8 : decode cX11_singer 8 = .ok (.bipush 100, 2) := by decide +kernel
theorem dX11_singer_10 : decode cX11_singer 10 = .ok (.idiv, 1) := by decide +kernel
theorem dX11_singer_11 : decode cX11_singer 11 = .ok (.bipush 10, 2) := by decide +kernel
theorem dX11_singer_13 : decode cX11_singer 13 = .ok (.irem, 1) := by decide +kernel
theorem dX11_singer_14 : decode cX11_singer 14 = .ok (.istore 5, 2) := by decide +kernel
theorem dX11_singer_16 : decode cX11_singer 16 = .ok (.iload_n 2, 1) := by decide +kernel
theorem dX11_singer_17 : decode cX11_singer 17 = .ok (.bipush 100, 2) := by decide +kernel
theorem dX11_singer_19 : decode cX11_singer 19 = .ok (.irem, 1) := by decide +kernel
theorem dX11_singer_20 : decode cX11_singer 20 = .ok (.istore 6, 2) := by decide +kernel
theorem dX11_singer_22 : decode cX11_singer 22 = .ok (.iload_n 1, 1) := by decide +kernel
theorem dX11_singer_23 : decode cX11_singer 23 = .ok (.bipush 6, 2) := by decide +kernel
theorem dX11_singer_25 : decode cX11_singer 25 = .ok (.invokestatic 118, 3) := by decide +kernel
theorem dX11_singer_28 : decode cX11_singer 28 = .ok (.ifCond .ne 44, 3) := by decide +kernel
theorem dX11_singer_31 : decode cX11_singer 31 = .ok (.iload_n 2, 1) := by decide +kernel
theorem dX11_singer_32 : decode cX11_singer 32 = .ok (.ifCond .lt 40, 3) := by decide +kernel
theorem dX11_singer_35 : decode cX11_singer 35 = .ok (.iload 4, 2) := by decide +kernel
theorem dX11_singer_37 : decode cX11_singer 37 = .ok (.iconst 4, 1) := by decide +kernel
theorem dX11_singer_38 : decode cX11_singer 38 = .ok (.invokestatic 118, 3) := by decide +kernel
theorem dX11_singer_41 : decode cX11_singer 41 = .ok (.ifCond .ne 31, 3) := by decide +kernel
theorem dX11_singer_44 : decode cX11_singer 44 = .ok (.iload 5, 2) := by decide +kernel
theorem dX11_singer_46 : decode cX11_singer 46 = .ok (.iconst 1, 1) := by decide +kernel
theorem dX11_singer_47 : decode cX11_singer 47 = .ok (.if_icmp .lt 25, 3) := by decide +kernel
theorem dX11_singer_50 : decode cX11_singer 50 = .ok (.iload 6, 2) := by decide +kernel
theorem dX11_singer_52 : decode cX11_singer 52 = .ok (.iconst 2, 1) := by decide +kernel
theorem dX11_singer_53 : decode cX11_singer 53 = .ok (.if_icmp .lt 19, 3) := by decide +kernel
theorem dX11_singer_56 : decode cX11_singer 56 = .ok (.iload 6, 2) := by decide +kernel
theorem dX11_singer_58 : decode cX11_singer 58 = .ok (.bipush 40, 2) := by decide +kernel
theorem dX11_singer_60 : decode cX11_singer 60 = .ok (.if_icmp .gt 12, 3) := by decide +kernel
theorem dX11_singer_63 : decode cX11_singer 63 = .ok (.iload_n 3, 1) := by decide +kernel
theorem dX11_singer_64 : decode cX11_singer 64 = .ok (.bipush 10, 2) := by decide +kernel
theorem dX11_singer_66 : decode cX11_singer 66 = .ok (.invokestatic 118, 3) := by decide +kernel
theorem dX11_singer_69 : decode cX11_singer 69 = .ok (.ifCond .eq 6, 3) := by decide +kernel
theorem dX11_singer_72 : decode cX11_singer 72 = .ok (.bipush (-2), 2) := by decide +kernel
theorem dX11_singer_74 : decode cX11_singer 74 = .ok (.ireturn, 1) := by decide +kernel
theorem dX11_singer_75 : decode cX11_singer 75 = .ok (.aload_n 0, 1) := by decide +kernel
theorem dX11_singer_76 : decode cX11_singer 76 = .ok (.getfield 29, 3) := by decide +kernel
theorem dX11_singer_79 : decode cX11_singer 79 = .ok (.bipush 10, 2) := by decide +kernel
theorem dX11_singer_81 : decode cX11_singer 81 = .ok (.if_icmp .lt 6, 3) := by decide +kernel
theorem dX11_singer_84 : decode cX11_singer 84 = .ok (.bipush (-4), 2) := by decide +kernel
theorem dX11_singer_86 : decode cX11_singer 86 = .ok (.ireturn, 1) := by decide +kernel
theorem dX11_singer_87 : decode cX11_singer 87 = .ok (.aload_n 0, 1) := by decide +kernel
theorem dX11_singer_88 : decode cX11_singer 88 = .ok (.getfield 25, 3) := by decide +kernel
theorem dX11_singer_91 : decode cX11_singer 91 = .ok (.aload_n 0, 1) := by decide +kernel
theorem dX11_singer_92 : decode cX11_singer 92 = .ok (.getfield 29, 3) := by decide +kernel
theorem dX11_singer_95 : decode cX11_singer 95 = .ok (.iload_n 1, 1) := by decide +kernel
theorem dX11_singer_96 : decode cX11_singer 96 = .ok (.iload 6, 2) := by decide +kernel
theorem dX11_singer_98 : decode cX11_singer 98 = .ok (.iload 5, 2) := by decide +kernel
theorem dX11_singer_100 : decode cX11_singer 100 = .ok (.iload_n 3, 1) := by decide +kernel
theorem dX11_singer_101 : decode cX11_singer 101 = .ok (.invokestatic 125, 3) := by decide +kernel
theorem dX11_singer_104 : decode cX11_singer 104 = .ok (.aastore, 1) := by decide +kernel
theorem dX11_singer_105 : decode cX11_singer 105 = .ok (.aload_n 0, 1) := by decide +kernel
theorem dX11_singer_106 : decode cX11_singer 106 = .ok (.getfield 10, 3) := by decide +kernel
theorem dX11_singer_109 : decode cX11_singer 109 = .ok (.getfield 129, 3) := by decide +kernel
theorem dX11_singer_112 : decode cX11_singer 112 = .ok (.aload_n 0, 1) := by decide +kernel
theorem dX11_singer_113 : decode cX11_singer 113 = .ok (.getfield 29, 3) := by decide +kernel
theorem dX11_singer_116 : decode cX11_singer 116 = .ok (.iload 4, 2) := by decide +kernel
theorem dX11_singer_118 : decode cX11_singer 118 = .ok (.iastore, 1) := by decide +kernel
theorem dX11_singer_119 : decode cX11_singer 119 = .ok (.aload_n 0, 1) := by decide +kernel
theorem dX11_singer_120 : decode cX11_singer 120 = .ok (.dup, 1) := by decide +kernel
theorem dX11_singer_121 : decode cX11_singer 121 = .ok (.getfield 29, 3) := by decide +kernel
theorem dX11_singer_124 : decode cX11_singer 124 = .ok (.iconst 1, 1) := by decide +kernel
theorem dX11_singer_125 : decode cX11_singer 125 = .ok (.iadd, 1) := by decide +kernel
theorem dX11_singer_126 : decode cX11_singer 126 = .ok (.putfield 29, 3) := by decide +kernel
theorem dX11_singer_129 : decode cX11_singer 129 = .ok (.aload_n 0, 1) := by decide +kernel
theorem dX11_singer_130 : decode cX11_singer 130 = .ok (.getfield 29, 3) := by decide +kernel
theorem dX11_singer_133 : decode cX11_singer 133 = .ok (.iconst 1, 1) := by decide +kernel
theorem dX11_singer_134 : decode cX11_singer 134 = .ok (.isub, 1) := by decide +kernel
theorem dX11_singer_135 : decode cX11_singer 135 = .ok (.ireturn, 1) := by decide +kernel
theorem dX11_voice_0 : decode cX11_voice 0 = .ok (.iload_n 1, 1) := by decide +kernel
theorem dX11_voice_1 : decode cX11_voice 1 = .ok (.aload_n 0, 1) := by decide +kernel
theorem dX11_voice_2 : decode cX11_voice 2 = .ok (.getfield 29, 3) := by decide +kernel
theorem dX11_voice_5 : decode cX11_voice 5 = .ok (.invokestatic 118, 3) := by decide +kernel
theorem dX11_voice_8 : decode cX11_voice 8 = .ok (.ifCond .eq 6, 3) := by decide +kernel
theorem dX11_voice_11 : decode cX11_voice 11 = .ok (.bipush (-2), 2) := by decide +kernel
theorem dX11_voice_13 : decode cX11_voice 13 = .ok (.ireturn, 1) := by decide +kernel
theorem dX11_voice_14 : decode cX11_voice 14 = .ok (.aload_n 0, 1) := by decide +kernel
theorem dX11_voice_15 : decode cX11_voice 15 = .ok (.getfield 10, 3) := by decide +kernel
theorem dX11_voice_18 : decode cX11_voice 18 = .ok (.getfield 129, 3) := by decide +kernel
theorem dX11_voice_21 : decode cX11_voice 21 = .ok (.iload_n 1, 1) := by decide +kernel
theorem dX11_voice_22 : decode cX11_voice 22 = .ok (.iload_n 2, 1) := by decide +kernel
theorem dX11_voice_23 : decode cX11_voice 23 = .ok (.iconst 4, 1) := by decide +kernel
theorem dX11_voice_24 : decode cX11_voice 24 = .ok (.invokestatic 102, 3) := by decide +kernel
theorem dX11_voice_27 : decode cX11_voice 27 = .ok (.ireturn, 1) := by decide +kernel
theorem dX11_told_0 : decode cX11_told 0 = .ok (.iload_n 1, 1) := by decide +kernel
theorem dX11_told_1 : decode cX11_told 1 = .ok (.aload_n 0, 1) := by decide +kernel
theorem dX11_told_2 : decode cX11_told 2 = .ok (.getfield 29, 3) := by decide +kernel
theorem dX11_told_5 : decode cX11_told 5 = .ok (.invokestatic 118, 3) := by decide +kernel
theorem dX11_told_8 : decode cX11_told 8 = .ok (.ifCond .ne 21, 3) := by decide +kernel
theorem dX11_told_11 : decode cX11_told 11 = .ok (.iload_n 2, 1) := by decide +kernel
theorem dX11_told_12 : decode cX11_told 12 = .ok (.bipush 49, 2) := by decide +kernel
theorem dX11_told_14 : decode cX11_told 14 = .ok (.invokestatic 118, 3) := by decide +kernel
theorem dX11_told_17 : decode cX11_told 17 = .ok (.ifCond .ne 12, 3) := by decide +kernel
theorem dX11_told_20 : decode cX11_told 20 = .ok (.iload_n 3, 1) := by decide +kernel
theorem dX11_told_21 : decode cX11_told 21 = .ok (.bipush 48, 2) := by decide +kernel
theorem dX11_told_23 : decode cX11_told 23 = .ok (.invokestatic 118, 3) := by decide +kernel
theorem dX11_told_26 : decode cX11_told 26 = .ok (.ifCond .eq 6, 3) := by decide +kernel
theorem dX11_told_29 : decode cX11_told 29 = .ok (.bipush (-2), 2) := by decide +kernel
theorem dX11_told_31 : decode cX11_told 31 = .ok (.ireturn, 1) := by decide +kernel
theorem dX11_told_32 : decode cX11_told 32 = .ok (.aload_n 0, 1) := by decide +kernel
theorem dX11_told_33 : decode cX11_told 33 = .ok (.getfield 25, 3) := by decide +kernel
theorem dX11_told_36 : decode cX11_told 36 = .ok (.iload_n 1, 1) := by decide +kernel
theorem dX11_told_37 : decode cX11_told 37 = .ok (.aaload, 1) := by decide +kernel
theorem dX11_told_38 : decode cX11_told 38 = .ok (.astore 5, 2) := by decide +kernel
theorem dX11_told_40 : decode cX11_told 40 = .ok (.aload_n 0, 1) := by decide +kernel
theorem dX11_told_41 : decode cX11_told 41 = .ok (.getfield 10, 3) := by decide +kernel
theorem dX11_told_44 : decode cX11_told 44 = .ok (.getfield 98, 3) := by decide +kernel
theorem dX11_told_47 : decode cX11_told 47 = .ok (.iload_n 3, 1) := by decide +kernel
theorem dX11_told_48 : decode cX11_told 48 = .ok (.iaload, 1) := by decide +kernel
theorem dX11_told_49 : decode cX11_told 49 = .ok (.istore 6, 2) := by decide +kernel
theorem dX11_told_51 : decode cX11_told 51 = .ok (.iload 4, 2) := by decide +kernel
theorem dX11_told_53 : decode cX11_told 53 = .ok (.tableswitch 88 0 5 #[39, 45, 55, 64, 71, 82], 39) := by decide +kernel
theorem dX11_told_92 : decode cX11_told 92 = .ok (.aload 5, 2) := by decide +kernel
theorem dX11_told_94 : decode cX11_told 94 = .ok (.invokevirtual 132, 3) := by decide +kernel
theorem dX11_told_97 : decode cX11_told 97 = .ok (.ireturn, 1) := by decide +kernel
theorem dX11_told_98 : decode cX11_told 98 = .ok (.aload_n 0, 1) := by decide +kernel
theorem dX11_told_99 : decode cX11_told 99 = .ok (.getfield 10, 3) := by decide +kernel
theorem dX11_told_102 : decode cX11_told 102 = .ok (.getfield 129, 3) := by decide +kernel
theorem dX11_told_105 : decode cX11_told 105 = .ok (.iload_n 1, 1) := by decide +kernel
theorem dX11_told_106 : decode cX11_told 106 = .ok (.iaload, 1) := by decide +kernel
theorem dX11_told_107 : decode cX11_told 107 = .ok (.ireturn, 1) := by decide +kernel
theorem dX11_told_108 : decode cX11_told 108 = .ok (.aload 5, 2) := by decide +kernel
theorem dX11_told_110 : decode cX11_told 110 = .ok (.iload 6, 2) := by decide +kernel
theorem dX11_told_112 : decode cX11_told 112 = .ok (.iload_n 2, 1) := by decide +kernel
theorem dX11_told_113 : decode cX11_told 113 = .ok (.invokevirtual 135, 3) := by decide +kernel
theorem dX11_told_116 : decode cX11_told 116 = .ok (.ireturn, 1) := by decide +kernel
theorem dX11_told_117 : decode cX11_told 117 = .ok (.aload 5, 2) := by decide +kernel
theorem dX11_told_119 : decode cX11_told 119 = .ok (.iload_n 2, 1) := by decide +kernel
theorem dX11_told_120 : decode cX11_told 120 = .ok (.invokevirtual 139, 3) := by decide +kernel
theorem dX11_told_123 : decode cX11_told 123 = .ok (.ireturn, 1) := by decide +kernel
theorem dX11_told_124 : decode cX11_told 124 = .ok (.aload 5, 2) := by decide +kernel
theorem dX11_told_126 : decode cX11_told 126 = .ok (.iload 6, 2) := by decide +kernel
theorem dX11_told_128 : decode cX11_told 128 = .ok (.invokevirtual 143, 3) := by decide +kernel
theorem dX11_told_131 : decode cX11_told 131 = .ok (.invokestatic 147, 3) := by decide +kernel
theorem dX11_told_134 : decode cX11_told 134 = .ok (.ireturn, 1) := by decide +kernel
theorem dX11_told_135 : decode cX11_told 135 = .ok (.aload 5, 2) := by decide +kernel
theorem dX11_told_137 : decode cX11_told 137 = .ok (.getfield 151, 3) := by decide +kernel
theorem dX11_told_140 : decode cX11_told 140 = .ok (.ireturn, 1) := by decide +kernel
theorem dX11_told_141 : decode cX11_told 141 = .ok (.bipush (-2), 2) := by decide +kernel
theorem dX11_told_143 : decode cX11_told 143 = .ok (.ireturn, 1) := by decide +kernel
theorem dX11_feed_0 : decode cX11_feed 0 = .ok (.iload_n 1, 1) := by decide +kernel
theorem dX11_feed_1 : decode cX11_feed 1 = .ok (.iconst 1, 1) := by decide +kernel
theorem dX11_feed_2 : decode cX11_feed 2 = .ok (.if_icmp .lt 9, 3) := by decide +kernel
theorem dX11_feed_5 : decode cX11_feed 5 = .ok (.iload_n 1, 1) := by decide +kernel
theorem dX11_feed_6 : decode cX11_feed 6 = .ok (.bipush 8, 2) := by decide +kernel
theorem dX11_feed_8 : decode cX11_feed 8 = .ok (.if_icmp .le 6, 3) := by decide +kernel
theorem dX11_feed_11 : decode cX11_feed 11 = .ok (.bipush (-2), 2) := by decide +kernel
theorem dX11_feed_13 : decode cX11_feed 13 = .ok (.ireturn, 1) := by decide +kernel
theorem dX11_feed_14 : decode cX11_feed 14 = .ok (.aload_n 0, 1) := by decide +kernel
theorem dX11_feed_15 : decode cX11_feed 15 = .ok (.getfield 35, 3) := by decide +kernel
theorem dX11_feed_18 : decode cX11_feed 18 = .ok (.getfield 154, 3) := by decide +kernel
theorem dX11_feed_21 : decode cX11_feed 21 = .ok (.iload_n 1, 1) := by decide +kernel
theorem dX11_feed_22 : decode cX11_feed 22 = .ok (.iadd, 1) := by decide +kernel
theorem dX11_feed_23 : decode cX11_feed 23 = .ok (.sipush 160, 3) := by decide +kernel
theorem dX11_feed_26 : decode cX11_feed 26 = .ok (.if_icmp .le 6, 3) := by decide +kernel
theorem dX11_feed_29 : decode cX11_feed 29 = .ok (.bipush (-4), 2) := by decide +kernel
theorem dX11_feed_31 : decode cX11_feed 31 = .ok (.ireturn, 1) := by decide +kernel
theorem dX11_feed_32 : decode cX11_feed 32 = .ok (.iconst 0, 1) := by decide +kernel
theorem dX11_feed_33 : decode cX11_feed 33 = .ok (.istore 4, 2) := by decide +kernel
theorem dX11_feed_35 : decode cX11_feed 35 = .ok (.iload 4, 2) := by decide +kernel
theorem dX11_feed_37 : decode cX11_feed 37 = .ok (.iload_n 1, 1) := by decide +kernel
theorem dX11_feed_38 : decode cX11_feed 38 = .ok (.if_icmp .ge 28, 3) := by decide +kernel
theorem dX11_feed_41 : decode cX11_feed 41 = .ok (.aload_n 0, 1) := by decide +kernel
theorem dX11_feed_42 : decode cX11_feed 42 = .ok (.getfield 35, 3) := by decide +kernel
theorem dX11_feed_45 : decode cX11_feed 45 = .ok (.lload_n 2, 1) := by decide +kernel
theorem dX11_feed_46 : decode cX11_feed 46 = .ok (.bipush 8, 2) := by decide +kernel
theorem dX11_feed_48 : decode cX11_feed 48 = .ok (.iload 4, 2) := by decide +kernel
theorem dX11_feed_50 : decode cX11_feed 50 = .ok (.imul, 1) := by decide +kernel
theorem dX11_feed_51 : decode cX11_feed 51 = .ok (.lshr, 1) := by decide +kernel
theorem dX11_feed_52 : decode cX11_feed 52 = .ok (.l2i, 1) := by decide +kernel
theorem dX11_feed_53 : decode cX11_feed 53 = .ok (.sipush 255, 3) := by decide +kernel
theorem dX11_feed_56 : decode cX11_feed 56 = .ok (.iand, 1) := by decide +kernel
theorem dX11_feed_57 : decode cX11_feed 57 = .ok (.invokevirtual 83, 3) := by decide +kernel
theorem dX11_feed_60 : decode cX11_feed 60 = .ok (.iinc 4 1, 3) := by decide +kernel
theorem dX11_feed_63 : decode cX11_feed 63 = .ok (.goto (-28), 3) := by decide +kernel
theorem dX11_feed_66 : decode cX11_feed 66 = .ok (.aload_n 0, 1) := by decide +kernel
theorem dX11_feed_67 : decode cX11_feed 67 = .ok (.getfield 35, 3) := by decide +kernel
theorem dX11_feed_70 : decode cX11_feed 70 = .ok (.getfield 154, 3) := by decide +kernel
theorem dX11_feed_73 : decode cX11_feed 73 = .ok (.ireturn, 1) := by decide +kernel
theorem dX11_text_0 : decode cX11_text 0 = .ok (.aload_n 0, 1) := by decide +kernel
theorem dX11_text_1 : decode cX11_text 1 = .ok (.getfield 45, 3) := by decide +kernel
theorem dX11_text_4 : decode cX11_text 4 = .ok (.bipush 6, 2) := by decide +kernel
theorem dX11_text_6 : decode cX11_text 6 = .ok (.if_icmp .lt 6, 3) := by decide +kernel
theorem dX11_text_9 : decode cX11_text 9 = .ok (.bipush (-4), 2) := by decide +kernel
theorem dX11_text_11 : decode cX11_text 11 = .ok (.ireturn, 1) := by decide +kernel
theorem dX11_text_12 : decode cX11_text 12 = .ok (.aload_n 0, 1) := by decide +kernel
theorem dX11_text_13 : decode cX11_text 13 = .ok (.getfield 35, 3) := by decide +kernel
theorem dX11_text_16 : decode cX11_text 16 = .ok (.invokevirtual 87, 3) := by decide +kernel
theorem dX11_text_19 : decode cX11_text 19 = .ok (.astore_n 1, 1) := by decide +kernel
theorem dX11_text_20 : decode cX11_text 20 = .ok (.aload_n 1, 1) := by decide +kernel
theorem dX11_text_21 : decode cX11_text 21 = .ok (.ifnonnull 16, 3) := by decide +kernel
theorem dX11_text_24 : decode cX11_text 24 = .ok (.bipush (-100), 2) := by decide +kernel
theorem dX11_text_26 : decode cX11_text 26 = .ok (.aload_n 0, 1) := by decide +kernel
theorem dX11_text_27 : decode cX11_text 27 = .ok (.getfield 35, 3) := by decide +kernel
theorem dX11_text_30 : decode cX11_text 30 = .ok (.getfield 155, 3) := by decide +kernel
theorem dX11_text_33 : decode cX11_text 33 = .ok (.isub, 1) := by decide +kernel
theorem dX11_text_34 : decode cX11_text 34 = .ok (.goto 7, 3) := by decide +kernel
theorem dX11_text_37 : decode cX11_text 37 = .ok (.aload_n 0, 1) := by decide +kernel
theorem dX11_text_38 : decode cX11_text 38 = .ok (.getfield 45, 3) := by decide +kernel
theorem dX11_text_41 : decode cX11_text 41 = .ok (.istore_n 2, 1) := by decide +kernel
theorem dX11_text_42 : decode cX11_text 42 = .ok (.aload_n 0, 1) := by decide +kernel
theorem dX11_text_43 : decode cX11_text 43 = .ok (.aload_n 1, 1) := by decide +kernel
theorem dX11_text_44 : decode cX11_text 44 = .ok (.invokevirtual 91, 3) := by decide +kernel
theorem dX11_text_47 : decode cX11_text 47 = .ok (.aload_n 0, 1) := by decide +kernel
theorem dX11_text_48 : decode cX11_text 48 = .ok (.getfield 35, 3) := by decide +kernel
theorem dX11_text_51 : decode cX11_text 51 = .ok (.invokevirtual 95, 3) := by decide +kernel
theorem dX11_text_54 : decode cX11_text 54 = .ok (.iload_n 2, 1) := by decide +kernel
theorem dX11_text_55 : decode cX11_text 55 = .ok (.ireturn, 1) := by decide +kernel
theorem dX11_force_0 : decode cX11_force 0 = .ok (.iload_n 1, 1) := by decide +kernel
theorem dX11_force_1 : decode cX11_force 1 = .ok (.aload_n 0, 1) := by decide +kernel
theorem dX11_force_2 : decode cX11_force 2 = .ok (.getfield 45, 3) := by decide +kernel
theorem dX11_force_5 : decode cX11_force 5 = .ok (.invokestatic 118, 3) := by decide +kernel
theorem dX11_force_8 : decode cX11_force 8 = .ok (.ifCond .eq 6, 3) := by decide +kernel
theorem dX11_force_11 : decode cX11_force 11 = .ok (.bipush (-2), 2) := by decide +kernel
theorem dX11_force_13 : decode cX11_force 13 = .ok (.ireturn, 1) := by decide +kernel
theorem dX11_force_14 : decode cX11_force 14 = .ok (.aload_n 0, 1) := by decide +kernel
theorem dX11_force_15 : decode cX11_force 15 = .ok (.getfield 10, 3) := by decide +kernel
theorem dX11_force_18 : decode cX11_force 18 = .ok (.getfield 158, 3) := by decide +kernel
theorem dX11_force_21 : decode cX11_force 21 = .ok (.istore_n 2, 1) := by decide +kernel
theorem dX11_force_22 : decode cX11_force 22 = .ok (.aload_n 0, 1) := by decide +kernel
theorem dX11_force_23 : decode cX11_force 23 = .ok (.getfield 10, 3) := by decide +kernel
theorem dX11_force_26 : decode cX11_force 26 = .ok (.iload_n 1, 1) := by decide +kernel
theorem dX11_force_27 : decode cX11_force 27 = .ok (.putfield 158, 3) := by decide +kernel
theorem dX11_force_30 : decode cX11_force 30 = .ok (.iload_n 2, 1) := by decide +kernel
theorem dX11_force_31 : decode cX11_force 31 = .ok (.ireturn, 1) := by decide +kernel
theorem dX11_sing_0 : decode cX11_sing 0 = .ok (.iload_n 1, 1) := by decide +kernel
theorem dX11_sing_1 : decode cX11_sing 1 = .ok (.bipush 7, 2) := by decide +kernel
theorem dX11_sing_3 : decode cX11_sing 3 = .ok (.invokestatic 118, 3) := by decide +kernel
theorem dX11_sing_6 : decode cX11_sing 6 = .ok (.ifCond .ne 17, 3) := by decide +kernel
theorem dX11_sing_9 : decode cX11_sing 9 = .ok (.iload_n 2, 1) := by decide +kernel
theorem dX11_sing_10 : decode cX11_sing 10 = .ok (.aload_n 0, 1) := by decide +kernel
theorem dX11_sing_11 : decode cX11_sing 11 = .ok (.getfield 10, 3) := by decide +kernel
theorem dX11_sing_14 : decode cX11_sing 14 = .ok (.getfield 115, 3) := by decide +kernel
theorem dX11_sing_17 : decode cX11_sing 17 = .ok (.invokestatic 118, 3) := by decide +kernel
theorem dX11_sing_20 : decode cX11_sing 20 = .ok (.ifCond .eq 6, 3) := by decide +kernel
theorem dX11_sing_23 : decode cX11_sing 23 = .ok (.bipush (-2), 2) := by decide +kernel
theorem dX11_sing_25 : decode cX11_sing 25 = .ok (.ireturn, 1) := by decide +kernel
theorem dX11_sing_26 : decode cX11_sing 26 = .ok (.aload_n 0, 1) := by decide +kernel
theorem dX11_sing_27 : decode cX11_sing 27 = .ok (.iload_n 1, 1) := by decide +kernel
theorem dX11_sing_28 : decode cX11_sing 28 = .ok (.invokevirtual 161, 3) := by decide +kernel
theorem dX11_sing_31 : decode cX11_sing 31 = .ok (.ifCond .eq 6, 3) := by decide +kernel
theorem dX11_sing_34 : decode cX11_sing 34 = .ok (.bipush (-11), 2) := by decide +kernel
theorem dX11_sing_36 : decode cX11_sing 36 = .ok (.ireturn, 1) := by decide +kernel
theorem dX11_sing_37 : decode cX11_sing 37 = .ok (.aload_n 0, 1) := by decide +kernel
theorem dX11_sing_38 : decode cX11_sing 38 = .ok (.iload_n 1, 1) := by decide +kernel
theorem dX11_sing_39 : decode cX11_sing 39 = .ok (.iload_n 2, 1) := by decide +kernel
theorem dX11_sing_40 : decode cX11_sing 40 = .ok (.invokevirtual 164, 3) := by decide +kernel
theorem dX11_sing_43 : decode cX11_sing 43 = .ok (.aload_n 0, 1) := by decide +kernel
theorem dX11_sing_44 : decode cX11_sing 44 = .ok (.getfield 59, 3) := by decide +kernel
theorem dX11_sing_47 : decode cX11_sing 47 = .ok (.getfield 168, 3) := by decide +kernel
theorem dX11_sing_50 : decode cX11_sing 50 = .ok (.ireturn, 1) := by decide +kernel
theorem dX11_of_0 : decode cX11_of 0 = .ok (.iload_n 1, 1) := by decide +kernel
theorem dX11_of_1 : decode cX11_of 1 = .ok (.bipush 7, 2) := by decide +kernel
theorem dX11_of_3 : decode cX11_of 3 = .ok (.invokestatic 118, 3) := by decide +kernel
theorem dX11_of_6 : decode cX11_of 6 = .ok (.ifCond .ne 25, 3) := by decide +kernel
theorem dX11_of_9 : decode cX11_of 9 = .ok (.iload_n 2, 1) := by decide +kernel
theorem dX11_of_10 : decode cX11_of 10 = .ok (.aload_n 0, 1) := by decide +kernel
theorem dX11_of_11 : decode cX11_of 11 = .ok (.getfield 10, 3) := by decide +kernel
theorem dX11_of_14 : decode cX11_of 14 = .ok (.getfield 115, 3) := by decide +kernel
theorem dX11_of_17 : decode cX11_of 17 = .ok (.invokestatic 118, 3) := by decide +kernel
theorem dX11_of_20 : decode cX11_of 20 = .ok (.ifCond .ne 11, 3) := by decide +kernel
theorem dX11_of_23 : decode cX11_of 23 = .ok (.iload_n 3, 1) := by decide +kernel
theorem dX11_of_24 : decode cX11_of 24 = .ok (.iconst 4, 1) := by decide +kernel
theorem dX11_of_25 : decode cX11_of 25 = .ok (.invokestatic 118, 3) := by decide +kernel
theorem dX11_of_28 : decode cX11_of 28 = .ok (.ifCond .eq 6, 3) := by decide +kernel
theorem dX11_of_31 : decode cX11_of 31 = .ok (.bipush (-2), 2) := by decide +kernel
theorem dX11_of_33 : decode cX11_of 33 = .ok (.ireturn, 1) := by decide +kernel
theorem dX11_of_34 : decode cX11_of 34 = .ok (.aload_n 0, 1) := by decide +kernel
theorem dX11_of_35 : decode cX11_of 35 = .ok (.iload_n 1, 1) := by decide +kernel
theorem dX11_of_36 : decode cX11_of 36 = .ok (.invokevirtual 161, 3) := by decide +kernel
theorem dX11_of_39 : decode cX11_of 39 = .ok (.ifCond .eq 6, 3) := by decide +kernel
theorem dX11_of_42 : decode cX11_of 42 = .ok (.bipush (-11), 2) := by decide +kernel
theorem dX11_of_44 : decode cX11_of 44 = .ok (.ireturn, 1) := by decide +kernel
theorem dX11_of_45 : decode cX11_of 45 = .ok (.aload_n 0, 1) := by decide +kernel
theorem dX11_of_46 : decode cX11_of 46 = .ok (.iload_n 1, 1) := by decide +kernel
theorem dX11_of_47 : decode cX11_of 47 = .ok (.iload_n 2, 1) := by decide +kernel
theorem dX11_of_48 : decode cX11_of 48 = .ok (.invokevirtual 164, 3) := by decide +kernel
theorem dX11_of_51 : decode cX11_of 51 = .ok (.aload_n 0, 1) := by decide +kernel
theorem dX11_of_52 : decode cX11_of 52 = .ok (.getfield 59, 3) := by decide +kernel
theorem dX11_of_55 : decode cX11_of 55 = .ok (.iload_n 3, 1) := by decide +kernel
theorem dX11_of_56 : decode cX11_of 56 = .ok (.invokevirtual 171, 3) := by decide +kernel
theorem dX11_of_59 : decode cX11_of 59 = .ok (.ireturn, 1) := by decide +kernel
theorem dX11_wrong_0 : decode cX11_wrong 0 = .ok (.iload_n 1, 1) := by decide +kernel
theorem dX11_wrong_1 : decode cX11_wrong 1 = .ok (.bipush 7, 2) := by decide +kernel
theorem dX11_wrong_3 : decode cX11_wrong 3 = .ok (.invokestatic 118, 3) := by decide +kernel
theorem dX11_wrong_6 : decode cX11_wrong 6 = .ok (.ifCond .eq 6, 3) := by decide +kernel
theorem dX11_wrong_9 : decode cX11_wrong 9 = .ok (.bipush (-2), 2) := by decide +kernel
theorem dX11_wrong_11 : decode cX11_wrong 11 = .ok (.ireturn, 1) := by decide +kernel
theorem dX11_wrong_12 : decode cX11_wrong 12 = .ok (.aload_n 0, 1) := by decide +kernel
theorem dX11_wrong_13 : decode cX11_wrong 13 = .ok (.iload_n 1, 1) := by decide +kernel
theorem dX11_wrong_14 : decode cX11_wrong 14 = .ok (.invokevirtual 161, 3) := by decide +kernel
theorem dX11_wrong_17 : decode cX11_wrong 17 = .ok (.ifCond .eq 6, 3) := by decide +kernel
theorem dX11_wrong_20 : decode cX11_wrong 20 = .ok (.bipush (-11), 2) := by decide +kernel
theorem dX11_wrong_22 : decode cX11_wrong 22 = .ok (.ireturn, 1) := by decide +kernel
theorem dX11_wrong_23 : decode cX11_wrong 23 = .ok (.aload_n 0, 1) := by decide +kernel
theorem dX11_wrong_24 : decode cX11_wrong 24 = .ok (.iload_n 1, 1) := by decide +kernel
theorem dX11_wrong_25 : decode cX11_wrong 25 = .ok (.invokevirtual 174, 3) := by decide +kernel
theorem dX11_wrong_28 : decode cX11_wrong 28 = .ok (.iconst 0, 1) := by decide +kernel
theorem dX11_wrong_29 : decode cX11_wrong 29 = .ok (.istore_n 2, 1) := by decide +kernel
theorem dX11_wrong_30 : decode cX11_wrong 30 = .ok (.iload_n 2, 1) := by decide +kernel
theorem dX11_wrong_31 : decode cX11_wrong 31 = .ok (.aload_n 0, 1) := by decide +kernel
theorem dX11_wrong_32 : decode cX11_wrong 32 = .ok (.getfield 10, 3) := by decide +kernel
theorem dX11_wrong_35 : decode cX11_wrong 35 = .ok (.getfield 115, 3) := by decide +kernel
theorem dX11_wrong_38 : decode cX11_wrong 38 = .ok (.if_icmp .ge 48, 3) := by decide +kernel
theorem dX11_wrong_41 : decode cX11_wrong 41 = .ok (.aload_n 0, 1) := by decide +kernel
theorem dX11_wrong_42 : decode cX11_wrong 42 = .ok (.getfield 59, 3) := by decide +kernel
theorem dX11_wrong_45 : decode cX11_wrong 45 = .ok (.iload_n 2, 1) := by decide +kernel
theorem dX11_wrong_46 : decode cX11_wrong 46 = .ok (.aload_n 0, 1) := by decide +kernel
theorem dX11_wrong_47 : decode cX11_wrong 47 = .ok (.getfield 10, 3) := by decide +kernel
theorem dX11_wrong_50 : decode cX11_wrong 50 = .ok (.getfield 98, 3) := by decide +kernel
theorem dX11_wrong_53 : decode cX11_wrong 53 = .ok (.iload_n 2, 1) := by decide +kernel
theorem dX11_wrong_54 : decode cX11_wrong 54 = .ok (.iaload, 1) := by decide +kernel
theorem dX11_wrong_55 : decode cX11_wrong 55 = .ok (.invokevirtual 177, 3) := by decide +kernel
theorem dX11_wrong_58 : decode cX11_wrong 58 = .ok (.aload_n 0, 1) := by decide +kernel
theorem dX11_wrong_59 : decode cX11_wrong 59 = .ok (.getfield 59, 3) := by decide +kernel
theorem dX11_wrong_62 : decode cX11_wrong 62 = .ok (.iload_n 2, 1) := by decide +kernel
theorem dX11_wrong_63 : decode cX11_wrong 63 = .ok (.invokevirtual 180, 3) := by decide +kernel
theorem dX11_wrong_66 : decode cX11_wrong 66 = .ok (.istore_n 3, 1) := by decide +kernel
theorem dX11_wrong_67 : decode cX11_wrong 67 = .ok (.iload_n 3, 1) := by decide +kernel
theorem dX11_wrong_68 : decode cX11_wrong 68 = .ok (.iconst (-1), 1) := by decide +kernel
theorem dX11_wrong_69 : decode cX11_wrong 69 = .ok (.if_icmp .eq 11, 3) := by decide +kernel
theorem dX11_wrong_72 : decode cX11_wrong 72 = .ok (.sipush 1000, 3) := by decide +kernel
theorem dX11_wrong_75 : decode cX11_wrong 75 = .ok (.iload_n 2, 1) := by decide +kernel
theorem dX11_wrong_76 : decode cX11_wrong 76 = .ok (.imul, 1) := by decide +kernel
theorem dX11_wrong_77 : decode cX11_wrong 77 = .ok (.iload_n 3, 1) := by decide +kernel
theorem dX11_wrong_78 : decode cX11_wrong 78 = .ok (.iadd, 1) := by decide +kernel
theorem dX11_wrong_79 : decode cX11_wrong 79 = .ok (.ireturn, 1) := by decide +kernel
theorem dX11_wrong_80 : decode cX11_wrong 80 = .ok (.iinc 2 1, 3) := by decide +kernel
theorem dX11_wrong_83 : decode cX11_wrong 83 = .ok (.goto (-53), 3) := by decide +kernel
theorem dX11_wrong_86 : decode cX11_wrong 86 = .ok (.iconst (-1), 1) := by decide +kernel
theorem dX11_wrong_87 : decode cX11_wrong 87 = .ok (.ireturn, 1) := by decide +kernel
theorem dX11_bad_0 : decode cX11_bad 0 = .ok (.iload_n 1, 1) := by decide +kernel
theorem dX11_bad_1 : decode cX11_bad 1 = .ok (.bipush 7, 2) := by decide +kernel
theorem dX11_bad_3 : decode cX11_bad 3 = .ok (.invokestatic 118, 3) := by decide +kernel
theorem dX11_bad_6 : decode cX11_bad 6 = .ok (.ifCond .ne 11, 3) := by decide +kernel
theorem dX11_bad_9 : decode cX11_bad 9 = .ok (.aload_n 0, 1) := by decide +kernel
theorem dX11_bad_10 : decode cX11_bad 10 = .ok (.iload_n 1, 1) := by decide +kernel
theorem dX11_bad_11 : decode cX11_bad 11 = .ok (.invokevirtual 161, 3) := by decide +kernel
theorem dX11_bad_14 : decode cX11_bad 14 = .ok (.ifCond .eq 7, 3) := by decide +kernel
theorem dX11_bad_17 : decode cX11_bad 17 = .ok (.ldc2_w 183, 3) := by decide +kernel
theorem dX11_bad_20 : decode cX11_bad 20 = .ok (.lreturn, 1) := by decide +kernel
theorem dX11_bad_21 : decode cX11_bad 21 = .ok (.aload_n 0, 1) := by decide +kernel
theorem dX11_bad_22 : decode cX11_bad 22 = .ok (.iload_n 1, 1) := by decide +kernel
theorem dX11_bad_23 : decode cX11_bad 23 = .ok (.invokevirtual 174, 3) := by decide +kernel
theorem dX11_bad_26 : decode cX11_bad 26 = .ok (.aload_n 0, 1) := by decide +kernel
theorem dX11_bad_27 : decode cX11_bad 27 = .ok (.getfield 59, 3) := by decide +kernel
theorem dX11_bad_30 : decode cX11_bad 30 = .ok (.invokevirtual 185, 3) := by decide +kernel
theorem dX11_bad_33 : decode cX11_bad 33 = .ok (.aload_n 0, 1) := by decide +kernel
theorem dX11_bad_34 : decode cX11_bad 34 = .ok (.getfield 59, 3) := by decide +kernel
theorem dX11_bad_37 : decode cX11_bad 37 = .ok (.invokevirtual 188, 3) := by decide +kernel
theorem dX11_bad_40 : decode cX11_bad 40 = .ok (.lreturn, 1) := by decide +kernel
theorem dX11_breaths_0 : decode cX11_breaths 0 = .ok (.iload_n 1, 1) := by decide +kernel
theorem dX11_breaths_1 : decode cX11_breaths 1 = .ok (.bipush 7, 2) := by decide +kernel
theorem dX11_breaths_3 : decode cX11_breaths 3 = .ok (.invokestatic 118, 3) := by decide +kernel
theorem dX11_breaths_6 : decode cX11_breaths 6 = .ok (.ifCond .ne 19, 3) := by decide +kernel
theorem dX11_breaths_9 : decode cX11_breaths 9 = .ok (.iload_n 2, 1) := by decide +kernel
theorem dX11_breaths_10 : decode cX11_breaths 10 = .ok (.iconst (-1), 1) := by decide +kernel
theorem dX11_breaths_11 : decode cX11_breaths 11 = .ok (.if_icmp .eq 17, 3) := by decide +kernel
theorem dX11_breaths_14 : decode cX11_breaths 14 = .ok (.iload_n 2, 1) := by decide +kernel
theorem dX11_breaths_15 : decode cX11_breaths 15 = .ok (.aload_n 0, 1) := by decide +kernel
theorem dX11_breaths_16 : decode cX11_breaths 16 = .ok (.getfield 29, 3) := by decide +kernel
theorem dX11_breaths_19 : decode cX11_breaths 19 = .ok (.invokestatic 118, 3) := by decide +kernel
theorem dX11_breaths_22 : decode cX11_breaths 22 = .ok (.ifCond .eq 6, 3) := by decide +kernel
theorem dX11_breaths_25 : decode cX11_breaths 25 = .ok (.bipush (-2), 2) := by decide +kernel
theorem dX11_breaths_27 : decode cX11_breaths 27 = .ok (.ireturn, 1) := by decide +kernel
theorem dX11_breaths_28 : decode cX11_breaths 28 = .ok (.aload_n 0, 1) := by decide +kernel
theorem dX11_breaths_29 : decode cX11_breaths 29 = .ok (.iload_n 1, 1) := by decide +kernel
theorem dX11_breaths_30 : decode cX11_breaths 30 = .ok (.invokevirtual 161, 3) := by decide +kernel
theorem dX11_breaths_33 : decode cX11_breaths 33 = .ok (.ifCond .eq 6, 3) := by decide +kernel
theorem dX11_breaths_36 : decode cX11_breaths 36 = .ok (.bipush (-11), 2) := by decide +kernel
theorem dX11_breaths_38 : decode cX11_breaths 38 = .ok (.ireturn, 1) := by decide +kernel
theorem dX11_breaths_39 : decode cX11_breaths 39 = .ok (.aload_n 0, 1) := by decide +kernel
theorem dX11_breaths_40 : decode cX11_breaths 40 = .ok (.iload_n 1, 1) := by decide +kernel
theorem dX11_breaths_41 : decode cX11_breaths 41 = .ok (.aload_n 0, 1) := by decide +kernel
theorem dX11_breaths_42 : decode cX11_breaths 42 = .ok (.getfield 10, 3) := by decide +kernel
theorem dX11_breaths_45 : decode cX11_breaths 45 = .ok (.getfield 115, 3) := by decide +kernel
theorem dX11_breaths_48 : decode cX11_breaths 48 = .ok (.iconst 1, 1) := by decide +kernel
theorem dX11_breaths_49 : decode cX11_breaths 49 = .ok (.isub, 1) := by decide +kernel
theorem dX11_breaths_50 : decode cX11_breaths 50 = .ok (.invokevirtual 164, 3) := by decide +kernel
theorem dX11_breaths_53 : decode cX11_breaths 53 = .ok (.iload_n 2, 1) := by decide +kernel
theorem dX11_breaths_54 : decode cX11_breaths 54 = .ok (.iconst (-1), 1) := by decide +kernel
theorem dX11_breaths_55 : decode cX11_breaths 55 = .ok (.if_icmp .ne 13, 3) := by decide +kernel
theorem dX11_breaths_58 : decode cX11_breaths 58 = .ok (.aload_n 0, 1) := by decide +kernel
theorem dX11_breaths_59 : decode cX11_breaths 59 = .ok (.getfield 59, 3) := by decide +kernel
theorem dX11_breaths_62 : decode cX11_breaths 62 = .ok (.invokevirtual 192, 3) := by decide +kernel
theorem dX11_breaths_65 : decode cX11_breaths 65 = .ok (.goto 12, 3) := by decide +kernel
theorem dX11_breaths_68 : decode cX11_breaths 68 = .ok (.aload_n 0, 1) := by decide +kernel
theorem dX11_breaths_69 : decode cX11_breaths 69 = .ok (.getfield 59, 3) := by decide +kernel
theorem dX11_breaths_72 : decode cX11_breaths 72 = .ok (.getfield 195, 3) := by decide +kernel
theorem dX11_breaths_75 : decode cX11_breaths 75 = .ok (.iload_n 2, 1) := by decide +kernel
theorem dX11_breaths_76 : decode cX11_breaths 76 = .ok (.iaload, 1) := by decide +kernel
theorem dX11_breaths_77 : decode cX11_breaths 77 = .ok (.ireturn, 1) := by decide +kernel
theorem dX11_fewest_0 : decode cX11_fewest 0 = .ok (.iload_n 1, 1) := by decide +kernel
theorem dX11_fewest_1 : decode cX11_fewest 1 = .ok (.iconst 1, 1) := by decide +kernel
theorem dX11_fewest_2 : decode cX11_fewest 2 = .ok (.if_icmp .lt 30, 3) := by decide +kernel
theorem dX11_fewest_5 : decode cX11_fewest 5 = .ok (.iload_n 1, 1) := by decide +kernel
theorem dX11_fewest_6 : decode cX11_fewest 6 = .ok (.bipush 40, 2) := by decide +kernel
theorem dX11_fewest_8 : decode cX11_fewest 8 = .ok (.if_icmp .gt 24, 3) := by decide +kernel
theorem dX11_fewest_11 : decode cX11_fewest 11 = .ok (.iload_n 2, 1) := by decide +kernel
theorem dX11_fewest_12 : decode cX11_fewest 12 = .ok (.iconst 1, 1) := by decide +kernel
theorem dX11_fewest_13 : decode cX11_fewest 13 = .ok (.if_icmp .lt 19, 3) := by decide +kernel
theorem dX11_fewest_16 : decode cX11_fewest 16 = .ok (.iload_n 2, 1) := by decide +kernel
theorem dX11_fewest_17 : decode cX11_fewest 17 = .ok (.bipush 18, 2) := by decide +kernel
theorem dX11_fewest_19 : decode cX11_fewest 19 = .ok (.if_icmp .gt 13, 3) := by decide +kernel
theorem dX11_fewest_22 : decode cX11_fewest 22 = .ok (.iload_n 3, 1) := by decide +kernel
theorem dX11_fewest_23 : decode cX11_fewest 23 = .ok (.ifCond .lt 9, 3) := by decide +kernel
theorem dX11_fewest_26 : decode cX11_fewest 26 = .ok (.iload_n 3, 1) := by decide +kernel
theorem dX11_fewest_27 : decode cX11_fewest 27 = .ok (.bipush 99, 2) := by decide +kernel
theorem dX11_fewest_29 : decode cX11_fewest 29 = .ok (.if_icmp .le 6, 3) := by decide +kernel
theorem dX11_fewest_32 : decode cX11_fewest 32 = .ok (.bipush (-2), 2) := by decide +kernel
theorem dX11_fewest_34 : decode cX11_fewest 34 = .ok (.ireturn, 1) := by decide +kernel
theorem dX11_fewest_35 : decode cX11_fewest 35 = .ok (.iload_n 3, 1) := by decide +kernel
theorem dX11_fewest_36 : decode cX11_fewest 36 = .ok (.iload_n 1, 1) := by decide +kernel
theorem dX11_fewest_37 : decode cX11_fewest 37 = .ok (.iload_n 2, 1) := by decide +kernel
theorem dX11_fewest_38 : decode cX11_fewest 38 = .ok (.iadd, 1) := by decide +kernel
theorem dX11_fewest_39 : decode cX11_fewest 39 = .ok (.imul, 1) := by decide +kernel
theorem dX11_fewest_40 : decode cX11_fewest 40 = .ok (.iload_n 1, 1) := by decide +kernel
theorem dX11_fewest_41 : decode cX11_fewest 41 = .ok (.iadd, 1) := by decide +kernel
theorem dX11_fewest_42 : decode cX11_fewest 42 = .ok (.iconst 1, 1) := by decide +kernel
theorem dX11_fewest_43 : decode cX11_fewest 43 = .ok (.isub, 1) := by decide +kernel
theorem dX11_fewest_44 : decode cX11_fewest 44 = .ok (.iload_n 1, 1) := by decide +kernel
theorem dX11_fewest_45 : decode cX11_fewest 45 = .ok (.idiv, 1) := by decide +kernel
theorem dX11_fewest_46 : decode cX11_fewest 46 = .ok (.ireturn, 1) := by decide +kernel
theorem dX11_round_0 : decode cX11_round 0 = .ok (.iload_n 1, 1) := by decide +kernel
theorem dX11_round_1 : decode cX11_round 1 = .ok (.ifCond .eq 9, 3) := by decide +kernel
theorem dX11_round_4 : decode cX11_round 4 = .ok (.iload_n 1, 1) := by decide +kernel
theorem dX11_round_5 : decode cX11_round 5 = .ok (.bipush 6, 2) := by decide +kernel
theorem dX11_round_7 : decode cX11_round 7 = .ok (.if_icmp .ne 20, 3) := by decide +kernel
theorem dX11_round_10 : decode cX11_round 10 = .ok (.iload_n 2, 1) := by decide +kernel
theorem dX11_round_11 : decode cX11_round 11 = .ok (.bipush 10, 2) := by decide +kernel
theorem dX11_round_13 : decode cX11_round 13 = .ok (.invokestatic 118, 3) := by decide +kernel
theorem dX11_round_16 : decode cX11_round 16 = .ok (.ifCond .ne 11, 3) := by decide +kernel
theorem dX11_round_19 : decode cX11_round 19 = .ok (.iload_n 3, 1) := by decide +kernel
theorem dX11_round_20 : decode cX11_round 20 = .ok (.iconst 2, 1) := by decide +kernel
theorem dX11_round_21 : decode cX11_round 21 = .ok (.invokestatic 118, 3) := by decide +kernel
theorem dX11_round_24 : decode cX11_round 24 = .ok (.ifCond .eq 6, 3) := by decide +kernel
theorem dX11_round_27 : decode cX11_round 27 = .ok (.bipush (-2), 2) := by decide +kernel
theorem dX11_round_29 : decode cX11_round 29 = .ok (.ireturn, 1) := by decide +kernel
theorem dX11_round_30 : decode cX11_round 30 = .ok (.aload_n 0, 1) := by decide +kernel
theorem dX11_round_31 : decode cX11_round 31 = .ok (.iload_n 1, 1) := by decide +kernel
theorem dX11_round_32 : decode cX11_round 32 = .ok (.invokevirtual 174, 3) := by decide +kernel
theorem dX11_round_35 : decode cX11_round 35 = .ok (.iconst 0, 1) := by decide +kernel
theorem dX11_round_36 : decode cX11_round 36 = .ok (.istore 4, 2) := by decide +kernel
theorem dX11_round_38 : decode cX11_round 38 = .ok (.iload 4, 2) := by decide +kernel
theorem dX11_round_40 : decode cX11_round 40 = .ok (.sipush 200, 3) := by decide +kernel
theorem dX11_round_43 : decode cX11_round 43 = .ok (.if_icmp .ge 78, 3) := by decide +kernel
theorem dX11_round_46 : decode cX11_round 46 = .ok (.aload_n 0, 1) := by decide +kernel
theorem dX11_round_47 : decode cX11_round 47 = .ok (.getfield 59, 3) := by decide +kernel
theorem dX11_round_50 : decode cX11_round 50 = .ok (.iload 4, 2) := by decide +kernel
theorem dX11_round_52 : decode cX11_round 52 = .ok (.iload_n 2, 1) := by decide +kernel
theorem dX11_round_53 : decode cX11_round 53 = .ok (.invokevirtual 177, 3) := by decide +kernel
theorem dX11_round_56 : decode cX11_round 56 = .ok (.aload_n 0, 1) := by decide +kernel
theorem dX11_round_57 : decode cX11_round 57 = .ok (.getfield 63, 3) := by decide +kernel
theorem dX11_round_60 : decode cX11_round 60 = .ok (.iload 4, 2) := by decide +kernel
theorem dX11_round_62 : decode cX11_round 62 = .ok (.aload_n 0, 1) := by decide +kernel
theorem dX11_round_63 : decode cX11_round 63 = .ok (.getfield 59, 3) := by decide +kernel
theorem dX11_round_66 : decode cX11_round 66 = .ok (.iconst 0, 1) := by decide +kernel
theorem dX11_round_67 : decode cX11_round 67 = .ok (.iconst 5, 1) := by decide +kernel
theorem dX11_round_68 : decode cX11_round 68 = .ok (.invokevirtual 198, 3) := by decide +kernel
theorem dX11_round_71 : decode cX11_round 71 = .ok (.lastore, 1) := by decide +kernel
theorem dX11_round_72 : decode cX11_round 72 = .ok (.aload_n 0, 1) := by decide +kernel
theorem dX11_round_73 : decode cX11_round 73 = .ok (.getfield 67, 3) := by decide +kernel
theorem dX11_round_76 : decode cX11_round 76 = .ok (.iload 4, 2) := by decide +kernel
theorem dX11_round_78 : decode cX11_round 78 = .ok (.aload_n 0, 1) := by decide +kernel
theorem dX11_round_79 : decode cX11_round 79 = .ok (.getfield 59, 3) := by decide +kernel
theorem dX11_round_82 : decode cX11_round 82 = .ok (.iconst 5, 1) := by decide +kernel
theorem dX11_round_83 : decode cX11_round 83 = .ok (.bipush 10, 2) := by decide +kernel
theorem dX11_round_85 : decode cX11_round 85 = .ok (.invokevirtual 198, 3) := by decide +kernel
theorem dX11_round_88 : decode cX11_round 88 = .ok (.lastore, 1) := by decide +kernel
theorem dX11_round_89 : decode cX11_round 89 = .ok (.aload_n 0, 1) := by decide +kernel
theorem dX11_round_90 : decode cX11_round 90 = .ok (.iload 4, 2) := by decide +kernel
theorem dX11_round_92 : decode cX11_round 92 = .ok (.invokevirtual 202, 3) := by decide +kernel
theorem dX11_round_95 : decode cX11_round 95 = .ok (.istore 5, 2) := by decide +kernel
theorem dX11_round_97 : decode cX11_round 97 = .ok (.iload 5, 2) := by decide +kernel
theorem dX11_round_99 : decode cX11_round 99 = .ok (.iconst (-1), 1) := by decide +kernel
theorem dX11_round_100 : decode cX11_round 100 = .ok (.if_icmp .eq 15, 3) := by decide +kernel
theorem dX11_round_103 : decode cX11_round 103 = .ok (.iload_n 3, 1) := by decide +kernel
theorem dX11_round_104 : decode cX11_round 104 = .ok (.ifCond .ne 8, 3) := by decide +kernel
theorem dX11_round_107 : decode cX11_round 107 = .ok (.iload 4, 2) := by decide +kernel
theorem dX11_round_109 : decode cX11_round 109 = .ok (.goto 5, 3) := by decide +kernel
theorem dX11_round_112 : decode cX11_round 112 = .ok (.iload 5, 2) := by decide +kernel
theorem dX11_round_114 : decode cX11_round 114 = .ok (.ireturn, 1) := by decide +kernel
theorem dX11_round_115 : decode cX11_round 115 = .ok (.iinc 4 1, 3) := by decide +kernel
theorem dX11_round_118 : decode cX11_round 118 = .ok (.goto (-80), 3) := by decide +kernel
theorem dX11_round_121 : decode cX11_round 121 = .ok (.iconst (-1), 1) := by decide +kernel
theorem dX11_round_122 : decode cX11_round 122 = .ok (.ireturn, 1) := by decide +kernel
theorem dX11_lent_0 : decode cX11_lent 0 = .ok (.iload_n 1, 1) := by decide +kernel
theorem dX11_lent_1 : decode cX11_lent 1 = .ok (.bipush 7, 2) := by decide +kernel
theorem dX11_lent_3 : decode cX11_lent 3 = .ok (.invokestatic 118, 3) := by decide +kernel
theorem dX11_lent_6 : decode cX11_lent 6 = .ok (.ifCond .ne 30, 3) := by decide +kernel
theorem dX11_lent_9 : decode cX11_lent 9 = .ok (.iload_n 2, 1) := by decide +kernel
theorem dX11_lent_10 : decode cX11_lent 10 = .ok (.aload_n 0, 1) := by decide +kernel
theorem dX11_lent_11 : decode cX11_lent 11 = .ok (.getfield 29, 3) := by decide +kernel
theorem dX11_lent_14 : decode cX11_lent 14 = .ok (.invokestatic 118, 3) := by decide +kernel
theorem dX11_lent_17 : decode cX11_lent 17 = .ok (.ifCond .ne 19, 3) := by decide +kernel
theorem dX11_lent_20 : decode cX11_lent 20 = .ok (.iload_n 3, 1) := by decide +kernel
theorem dX11_lent_21 : decode cX11_lent 21 = .ok (.iconst 4, 1) := by decide +kernel
theorem dX11_lent_22 : decode cX11_lent 22 = .ok (.invokestatic 118, 3) := by decide +kernel
theorem dX11_lent_25 : decode cX11_lent 25 = .ok (.ifCond .ne 11, 3) := by decide +kernel
theorem dX11_lent_28 : decode cX11_lent 28 = .ok (.aload_n 0, 1) := by decide +kernel
theorem dX11_lent_29 : decode cX11_lent 29 = .ok (.iload_n 1, 1) := by decide +kernel
theorem dX11_lent_30 : decode cX11_lent 30 = .ok (.invokevirtual 161, 3) := by decide +kernel
theorem dX11_lent_33 : decode cX11_lent 33 = .ok (.ifCond .eq 7, 3) := by decide +kernel
theorem dX11_lent_36 : decode cX11_lent 36 = .ok (.ldc2_w 183, 3) := by decide +kernel
theorem dX11_lent_39 : decode cX11_lent 39 = .ok (.lreturn, 1) := by decide +kernel
theorem dX11_lent_40 : decode cX11_lent 40 = .ok (.aload_n 0, 1) := by decide +kernel
theorem dX11_lent_41 : decode cX11_lent 41 = .ok (.iload_n 1, 1) := by decide +kernel
theorem dX11_lent_42 : decode cX11_lent 42 = .ok (.invokevirtual 174, 3) := by decide +kernel
theorem dX11_lent_45 : decode cX11_lent 45 = .ok (.aload_n 0, 1) := by decide +kernel
theorem dX11_lent_46 : decode cX11_lent 46 = .ok (.getfield 59, 3) := by decide +kernel
theorem dX11_lent_49 : decode cX11_lent 49 = .ok (.invokevirtual 185, 3) := by decide +kernel
theorem dX11_lent_52 : decode cX11_lent 52 = .ok (.aload_n 0, 1) := by decide +kernel
theorem dX11_lent_53 : decode cX11_lent 53 = .ok (.getfield 59, 3) := by decide +kernel
theorem dX11_lent_56 : decode cX11_lent 56 = .ok (.invokevirtual 188, 3) := by decide +kernel
theorem dX11_lent_59 : decode cX11_lent 59 = .ok (.lstore 4, 2) := by decide +kernel
theorem dX11_lent_61 : decode cX11_lent 61 = .ok (.aload_n 0, 1) := by decide +kernel
theorem dX11_lent_62 : decode cX11_lent 62 = .ok (.getfield 10, 3) := by decide +kernel
theorem dX11_lent_65 : decode cX11_lent 65 = .ok (.getfield 129, 3) := by decide +kernel
theorem dX11_lent_68 : decode cX11_lent 68 = .ok (.iload_n 2, 1) := by decide +kernel
theorem dX11_lent_69 : decode cX11_lent 69 = .ok (.iaload, 1) := by decide +kernel
theorem dX11_lent_70 : decode cX11_lent 70 = .ok (.istore 6, 2) := by decide +kernel
theorem dX11_lent_72 : decode cX11_lent 72 = .ok (.aload_n 0, 1) := by decide +kernel
theorem dX11_lent_73 : decode cX11_lent 73 = .ok (.getfield 10, 3) := by decide +kernel
theorem dX11_lent_76 : decode cX11_lent 76 = .ok (.getfield 129, 3) := by decide +kernel
theorem dX11_lent_79 : decode cX11_lent 79 = .ok (.iload_n 2, 1) := by decide +kernel
theorem dX11_lent_80 : decode cX11_lent 80 = .ok (.iload_n 3, 1) := by decide +kernel
theorem dX11_lent_81 : decode cX11_lent 81 = .ok (.iastore, 1) := by decide +kernel
theorem dX11_lent_82 : decode cX11_lent 82 = .ok (.aload_n 0, 1) := by decide +kernel
theorem dX11_lent_83 : decode cX11_lent 83 = .ok (.getfield 59, 3) := by decide +kernel
theorem dX11_lent_86 : decode cX11_lent 86 = .ok (.invokevirtual 188, 3) := by decide +kernel
theorem dX11_lent_89 : decode cX11_lent 89 = .ok (.lstore 7, 2) := by decide +kernel
theorem dX11_lent_91 : decode cX11_lent 91 = .ok (.aload_n 0, 1) := by decide +kernel
theorem dX11_lent_92 : decode cX11_lent 92 = .ok (.getfield 10, 3) := by decide +kernel
theorem dX11_lent_95 : decode cX11_lent 95 = .ok (.getfield 129, 3) := by decide +kernel
theorem dX11_lent_98 : decode cX11_lent 98 = .ok (.iload_n 2, 1) := by decide +kernel
theorem dX11_lent_99 : decode cX11_lent 99 = .ok (.iload 6, 2) := by decide +kernel
theorem dX11_lent_101 : decode cX11_lent 101 = .ok (.iastore, 1) := by decide +kernel
theorem dX11_lent_102 : decode cX11_lent 102 = .ok (.lload 7, 2) := by decide +kernel
theorem dX11_lent_104 : decode cX11_lent 104 = .ok (.lload 4, 2) := by decide +kernel
theorem dX11_lent_106 : decode cX11_lent 106 = .ok (.lsub, 1) := by decide +kernel
theorem dX11_lent_107 : decode cX11_lent 107 = .ok (.lreturn, 1) := by decide +kernel
theorem dX11_lost_0 : decode cX11_lost 0 = .ok (.iload_n 1, 1) := by decide +kernel
theorem dX11_lost_1 : decode cX11_lost 1 = .ok (.bipush 7, 2) := by decide +kernel
theorem dX11_lost_3 : decode cX11_lost 3 = .ok (.invokestatic 118, 3) := by decide +kernel
theorem dX11_lost_6 : decode cX11_lost 6 = .ok (.ifCond .ne 31, 3) := by decide +kernel
theorem dX11_lost_9 : decode cX11_lost 9 = .ok (.iload_n 2, 1) := by decide +kernel
theorem dX11_lost_10 : decode cX11_lost 10 = .ok (.aload_n 0, 1) := by decide +kernel
theorem dX11_lost_11 : decode cX11_lost 11 = .ok (.getfield 29, 3) := by decide +kernel
theorem dX11_lost_14 : decode cX11_lost 14 = .ok (.invokestatic 118, 3) := by decide +kernel
theorem dX11_lost_17 : decode cX11_lost 17 = .ok (.ifCond .ne 20, 3) := by decide +kernel
theorem dX11_lost_20 : decode cX11_lost 20 = .ok (.iload_n 3, 1) := by decide +kernel
theorem dX11_lost_21 : decode cX11_lost 21 = .ok (.bipush 48, 2) := by decide +kernel
theorem dX11_lost_23 : decode cX11_lost 23 = .ok (.invokestatic 118, 3) := by decide +kernel
theorem dX11_lost_26 : decode cX11_lost 26 = .ok (.ifCond .ne 11, 3) := by decide +kernel
theorem dX11_lost_29 : decode cX11_lost 29 = .ok (.aload_n 0, 1) := by decide +kernel
theorem dX11_lost_30 : decode cX11_lost 30 = .ok (.iload_n 1, 1) := by decide +kernel
theorem dX11_lost_31 : decode cX11_lost 31 = .ok (.invokevirtual 161, 3) := by decide +kernel
theorem dX11_lost_34 : decode cX11_lost 34 = .ok (.ifCond .eq 7, 3) := by decide +kernel
theorem dX11_lost_37 : decode cX11_lost 37 = .ok (.ldc2_w 183, 3) := by decide +kernel
theorem dX11_lost_40 : decode cX11_lost 40 = .ok (.lreturn, 1) := by decide +kernel
theorem dX11_lost_41 : decode cX11_lost 41 = .ok (.aload_n 0, 1) := by decide +kernel
theorem dX11_lost_42 : decode cX11_lost 42 = .ok (.iload_n 1, 1) := by decide +kernel
theorem dX11_lost_43 : decode cX11_lost 43 = .ok (.invokevirtual 174, 3) := by decide +kernel
theorem dX11_lost_46 : decode cX11_lost 46 = .ok (.aload_n 0, 1) := by decide +kernel
theorem dX11_lost_47 : decode cX11_lost 47 = .ok (.getfield 59, 3) := by decide +kernel
theorem dX11_lost_50 : decode cX11_lost 50 = .ok (.invokevirtual 185, 3) := by decide +kernel
theorem dX11_lost_53 : decode cX11_lost 53 = .ok (.aload_n 0, 1) := by decide +kernel
theorem dX11_lost_54 : decode cX11_lost 54 = .ok (.getfield 59, 3) := by decide +kernel
theorem dX11_lost_57 : decode cX11_lost 57 = .ok (.invokevirtual 188, 3) := by decide +kernel
theorem dX11_lost_60 : decode cX11_lost 60 = .ok (.lstore 4, 2) := by decide +kernel
theorem dX11_lost_62 : decode cX11_lost 62 = .ok (.aload_n 0, 1) := by decide +kernel
theorem dX11_lost_63 : decode cX11_lost 63 = .ok (.getfield 59, 3) := by decide +kernel
theorem dX11_lost_66 : decode cX11_lost 66 = .ok (.iload_n 2, 1) := by decide +kernel
theorem dX11_lost_67 : decode cX11_lost 67 = .ok (.iload_n 3, 1) := by decide +kernel
theorem dX11_lost_68 : decode cX11_lost 68 = .ok (.invokevirtual 205, 3) := by decide +kernel
theorem dX11_lost_71 : decode cX11_lost 71 = .ok (.aload_n 0, 1) := by decide +kernel
theorem dX11_lost_72 : decode cX11_lost 72 = .ok (.getfield 59, 3) := by decide +kernel
theorem dX11_lost_75 : decode cX11_lost 75 = .ok (.invokevirtual 188, 3) := by decide +kernel
theorem dX11_lost_78 : decode cX11_lost 78 = .ok (.lload 4, 2) := by decide +kernel
theorem dX11_lost_80 : decode cX11_lost 80 = .ok (.lsub, 1) := by decide +kernel
theorem dX11_lost_81 : decode cX11_lost 81 = .ok (.lreturn, 1) := by decide +kernel
theorem dX11_who_0 : decode cX11_who 0 = .ok (.iload_n 1, 1) := by decide +kernel
theorem dX11_who_1 : decode cX11_who 1 = .ok (.iconst 4, 1) := by decide +kernel
theorem dX11_who_2 : decode cX11_who 2 = .ok (.invokestatic 118, 3) := by decide +kernel
theorem dX11_who_5 : decode cX11_who 5 = .ok (.ifCond .eq 6, 3) := by decide +kernel
theorem dX11_who_8 : decode cX11_who 8 = .ok (.bipush (-2), 2) := by decide +kernel
theorem dX11_who_10 : decode cX11_who 10 = .ok (.ireturn, 1) := by decide +kernel
theorem dX11_who_11 : decode cX11_who 11 = .ok (.aload_n 0, 1) := by decide +kernel
theorem dX11_who_12 : decode cX11_who 12 = .ok (.getfield 50, 3) := by decide +kernel
theorem dX11_who_15 : decode cX11_who 15 = .ok (.iload_n 1, 1) := by decide +kernel
theorem dX11_who_16 : decode cX11_who 16 = .ok (.aaload, 1) := by decide +kernel
theorem dX11_who_17 : decode cX11_who 17 = .ok (.invokevirtual 208, 3) := by decide +kernel
theorem dX11_who_20 : decode cX11_who 20 = .ok (.ifCond .eq 6, 3) := by decide +kernel
theorem dX11_who_23 : decode cX11_who 23 = .ok (.bipush (-11), 2) := by decide +kernel
theorem dX11_who_25 : decode cX11_who 25 = .ok (.ireturn, 1) := by decide +kernel
theorem dX11_who_26 : decode cX11_who 26 = .ok (.aload_n 0, 1) := by decide +kernel
theorem dX11_who_27 : decode cX11_who 27 = .ok (.iconst 2, 1) := by decide +kernel
theorem dX11_who_28 : decode cX11_who 28 = .ok (.iload_n 1, 1) := by decide +kernel
theorem dX11_who_29 : decode cX11_who 29 = .ok (.iadd, 1) := by decide +kernel
theorem dX11_who_30 : decode cX11_who 30 = .ok (.invokevirtual 174, 3) := by decide +kernel
theorem dX11_who_33 : decode cX11_who 33 = .ok (.aload_n 0, 1) := by decide +kernel
theorem dX11_who_34 : decode cX11_who 34 = .ok (.getfield 59, 3) := by decide +kernel
theorem dX11_who_37 : decode cX11_who 37 = .ok (.invokevirtual 185, 3) := by decide +kernel
theorem dX11_who_40 : decode cX11_who 40 = .ok (.aload_n 0, 1) := by decide +kernel
theorem dX11_who_41 : decode cX11_who 41 = .ok (.getfield 59, 3) := by decide +kernel
theorem dX11_who_44 : decode cX11_who 44 = .ok (.invokevirtual 188, 3) := by decide +kernel
theorem dX11_who_47 : decode cX11_who 47 = .ok (.lstore_n 2, 1) := by decide +kernel
theorem dX11_who_48 : decode cX11_who 48 = .ok (.iconst (-1), 1) := by decide +kernel
theorem dX11_who_49 : decode cX11_who 49 = .ok (.istore 4, 2) := by decide +kernel
theorem dX11_who_51 : decode cX11_who 51 = .ok (.iconst 0, 1) := by decide +kernel
theorem dX11_who_52 : decode cX11_who 52 = .ok (.istore 5, 2) := by decide +kernel
theorem dX11_who_54 : decode cX11_who 54 = .ok (.iload 5, 2) := by decide +kernel
theorem dX11_who_56 : decode cX11_who 56 = .ok (.aload_n 0, 1) := by decide +kernel
theorem dX11_who_57 : decode cX11_who 57 = .ok (.getfield 10, 3) := by decide +kernel
theorem dX11_who_60 : decode cX11_who 60 = .ok (.getfield 115, 3) := by decide +kernel
theorem dX11_who_63 : decode cX11_who 63 = .ok (.if_icmp .ge 120, 3) := by decide +kernel
theorem dX11_who_66 : decode cX11_who 66 = .ok (.iconst 0, 1) := by decide +kernel
theorem dX11_who_67 : decode cX11_who 67 = .ok (.istore 6, 2) := by decide +kernel
theorem dX11_who_69 : decode cX11_who 69 = .ok (.iload 6, 2) := by decide +kernel
theorem dX11_who_71 : decode cX11_who 71 = .ok (.aload_n 0, 1) := by decide +kernel
theorem dX11_who_72 : decode cX11_who 72 = .ok (.getfield 29, 3) := by decide +kernel
theorem dX11_who_75 : decode cX11_who 75 = .ok (.if_icmp .ge 102, 3) := by decide +kernel
theorem dX11_who_78 : decode cX11_who 78 = .ok (.lload_n 2, 1) := by decide +kernel
theorem dX11_who_79 : decode cX11_who 79 = .ok (.lconst 0, 1) := by decide +kernel
theorem dX11_who_80 : decode cX11_who 80 = .ok (.lcmp, 1) := by decide +kernel
theorem dX11_who_81 : decode cX11_who 81 = .ok (.ifCond .eq 90, 3) := by decide +kernel
theorem dX11_who_84 : decode cX11_who 84 = .ok (.aload_n 0, 1) := by decide +kernel
theorem dX11_who_85 : decode cX11_who 85 = .ok (.getfield 59, 3) := by decide +kernel
theorem dX11_who_88 : decode cX11_who 88 = .ok (.iload 6, 2) := by decide +kernel
theorem dX11_who_90 : decode cX11_who 90 = .ok (.iload 5, 2) := by decide +kernel
theorem dX11_who_92 : decode cX11_who 92 = .ok (.invokevirtual 211, 3) := by decide +kernel
theorem dX11_who_95 : decode cX11_who 95 = .ok (.ifCond .ne 6, 3) := by decide +kernel
theorem dX11_who_98 : decode cX11_who 98 = .ok (.goto 73, 3) := by decide +kernel
theorem dX11_who_101 : decode cX11_who 101 = .ok (.aload_n 0, 1) := by decide +kernel
theorem dX11_who_102 : decode cX11_who 102 = .ok (.getfield 59, 3) := by decide +kernel
theorem dX11_who_105 : decode cX11_who 105 = .ok (.getfield 214, 3) := by decide +kernel
theorem dX11_who_108 : decode cX11_who 108 = .ok (.iload 6, 2) := by decide +kernel
theorem dX11_who_110 : decode cX11_who 110 = .ok (.laload, 1) := by decide +kernel
theorem dX11_who_111 : decode cX11_who 111 = .ok (.lstore 7, 2) := by decide +kernel
theorem dX11_who_113 : decode cX11_who 113 = .ok (.aload_n 0, 1) := by decide +kernel
theorem dX11_who_114 : decode cX11_who 114 = .ok (.getfield 59, 3) := by decide +kernel
theorem dX11_who_117 : decode cX11_who 117 = .ok (.getfield 214, 3) := by decide +kernel
theorem dX11_who_120 : decode cX11_who 120 = .ok (.iload 6, 2) := by decide +kernel
theorem dX11_who_122 : decode cX11_who 122 = .ok (.lload 7, 2) := by decide +kernel
theorem dX11_who_124 : decode cX11_who 124 = .ok (.lconst 1, 1) := by decide +kernel
theorem dX11_who_125 : decode cX11_who 125 = .ok (.iload 5, 2) := by decide +kernel
theorem dX11_who_127 : decode cX11_who 127 = .ok (.lshl, 1) := by decide +kernel
theorem dX11_who_128 : decode cX11_who 128 = .ok (.lor, 1) := by decide +kernel
theorem dX11_who_129 : decode cX11_who 129 = .ok (.lastore, 1) := by decide +kernel
theorem dX11_who_130 : decode cX11_who 130 = .ok (.aload_n 0, 1) := by decide +kernel
theorem dX11_who_131 : decode cX11_who 131 = .ok (.getfield 59, 3) := by decide +kernel
theorem dX11_who_134 : decode cX11_who 134 = .ok (.invokevirtual 188, 3) := by decide +kernel
theorem dX11_who_137 : decode cX11_who 137 = .ok (.lstore 9, 2) := by decide +kernel
theorem dX11_who_139 : decode cX11_who 139 = .ok (.aload_n 0, 1) := by decide +kernel
theorem dX11_who_140 : decode cX11_who 140 = .ok (.getfield 59, 3) := by decide +kernel
theorem dX11_who_143 : decode cX11_who 143 = .ok (.getfield 214, 3) := by decide +kernel
theorem dX11_who_146 : decode cX11_who 146 = .ok (.iload 6, 2) := by decide +kernel
theorem dX11_who_148 : decode cX11_who 148 = .ok (.lload 7, 2) := by decide +kernel
theorem dX11_who_150 : decode cX11_who 150 = .ok (.lastore, 1) := by decide +kernel
theorem dX11_who_151 : decode cX11_who 151 = .ok (.lload 9, 2) := by decide +kernel
theorem dX11_who_153 : decode cX11_who 153 = .ok (.lload_n 2, 1) := by decide +kernel
theorem dX11_who_154 : decode cX11_who 154 = .ok (.lcmp, 1) := by decide +kernel
theorem dX11_who_155 : decode cX11_who 155 = .ok (.ifCond .ge 16, 3) := by decide +kernel
theorem dX11_who_158 : decode cX11_who 158 = .ok (.lload 9, 2) := by decide +kernel
theorem dX11_who_160 : decode cX11_who 160 = .ok (.lstore_n 2, 1) := by decide +kernel
theorem dX11_who_161 : decode cX11_who 161 = .ok (.bipush 100, 2) := by decide +kernel
theorem dX11_who_163 : decode cX11_who 163 = .ok (.iload 6, 2) := by decide +kernel
theorem dX11_who_165 : decode cX11_who 165 = .ok (.imul, 1) := by decide +kernel
theorem dX11_who_166 : decode cX11_who 166 = .ok (.iload 5, 2) := by decide +kernel
theorem dX11_who_168 : decode cX11_who 168 = .ok (.iadd, 1) := by decide +kernel
theorem dX11_who_169 : decode cX11_who 169 = .ok (.istore 4, 2) := by decide +kernel
theorem dX11_who_171 : decode cX11_who 171 = .ok (.iinc 6 1, 3) := by decide +kernel
theorem dX11_who_174 : decode cX11_who 174 = .ok (.goto (-105), 3) := by decide +kernel
theorem dX11_who_177 : decode cX11_who 177 = .ok (.iinc 5 1, 3) := by decide +kernel
theorem dX11_who_180 : decode cX11_who 180 = .ok (.goto (-126), 3) := by decide +kernel
theorem dX11_who_183 : decode cX11_who 183 = .ok (.iload 4, 2) := by decide +kernel
theorem dX11_who_185 : decode cX11_who 185 = .ok (.ireturn, 1) := by decide +kernel
theorem dX11_image_0 : decode cX11_image 0 = .ok (.aload_n 0, 1) := by decide +kernel
theorem dX11_image_1 : decode cX11_image 1 = .ok (.getfield 16, 3) := by decide +kernel
theorem dX11_image_4 : decode cX11_image 4 = .ok (.aload_n 0, 1) := by decide +kernel
theorem dX11_image_5 : decode cX11_image 5 = .ok (.getfield 10, 3) := by decide +kernel
theorem dX11_image_8 : decode cX11_image 8 = .ok (.aload_n 0, 1) := by decide +kernel
theorem dX11_image_9 : decode cX11_image 9 = .ok (.getfield 29, 3) := by decide +kernel
theorem dX11_image_12 : decode cX11_image 12 = .ok (.invokevirtual 217, 3) := by decide +kernel
theorem dX11_image_15 : decode cX11_image 15 = .ok (.aload_n 0, 1) := by decide +kernel
theorem dX11_image_16 : decode cX11_image 16 = .ok (.aload_n 0, 1) := by decide +kernel
theorem dX11_image_17 : decode cX11_image 17 = .ok (.getfield 29, 3) := by decide +kernel
theorem dX11_image_20 : decode cX11_image 20 = .ok (.putfield 19, 3) := by decide +kernel
theorem dX11_image_23 : decode cX11_image 23 = .ok (.aload_n 0, 1) := by decide +kernel
theorem dX11_image_24 : decode cX11_image 24 = .ok (.getfield 29, 3) := by decide +kernel
theorem dX11_image_27 : decode cX11_image 27 = .ok (.ireturn, 1) := by decide +kernel
theorem dX11_back_0 : decode cX11_back 0 = .ok (.aload_n 0, 1) := by decide +kernel
theorem dX11_back_1 : decode cX11_back 1 = .ok (.getfield 19, 3) := by decide +kernel
theorem dX11_back_4 : decode cX11_back 4 = .ok (.iconst (-1), 1) := by decide +kernel
theorem dX11_back_5 : decode cX11_back 5 = .ok (.if_icmp .ne 6, 3) := by decide +kernel
theorem dX11_back_8 : decode cX11_back 8 = .ok (.bipush (-3), 2) := by decide +kernel
theorem dX11_back_10 : decode cX11_back 10 = .ok (.ireturn, 1) := by decide +kernel
theorem dX11_back_11 : decode cX11_back 11 = .ok (.aload_n 0, 1) := by decide +kernel
theorem dX11_back_12 : decode cX11_back 12 = .ok (.getfield 10, 3) := by decide +kernel
theorem dX11_back_15 : decode cX11_back 15 = .ok (.aload_n 0, 1) := by decide +kernel
theorem dX11_back_16 : decode cX11_back 16 = .ok (.getfield 16, 3) := by decide +kernel
theorem dX11_back_19 : decode cX11_back 19 = .ok (.aload_n 0, 1) := by decide +kernel
theorem dX11_back_20 : decode cX11_back 20 = .ok (.getfield 19, 3) := by decide +kernel
theorem dX11_back_23 : decode cX11_back 23 = .ok (.invokevirtual 217, 3) := by decide +kernel
theorem dX11_back_26 : decode cX11_back 26 = .ok (.aload_n 0, 1) := by decide +kernel
theorem dX11_back_27 : decode cX11_back 27 = .ok (.getfield 29, 3) := by decide +kernel
theorem dX11_back_30 : decode cX11_back 30 = .ok (.ireturn, 1) := by decide +kernel
theorem dX11_count_0 : decode cX11_count 0 = .ok (.iload_n 1, 1) := by decide +kernel
theorem dX11_count_1 : decode cX11_count 1 = .ok (.tableswitch 129 0 7 #[47, 52, 60, 78, 96, 101, 109, 117], 47) := by decide +kernel
theorem dX11_count_48 : decode cX11_count 48 = .ok (.aload_n 0, 1) := by decide +kernel
theorem dX11_count_49 : decode cX11_count 49 = .ok (.getfield 29, 3) := by decide +kernel
theorem dX11_count_52 : decode cX11_count 52 = .ok (.ireturn, 1) := by decide +kernel
theorem dX11_count_53 : decode cX11_count 53 = .ok (.aload_n 0, 1) := by decide +kernel
theorem dX11_count_54 : decode cX11_count 54 = .ok (.getfield 10, 3) := by decide +kernel
theorem dX11_count_57 : decode cX11_count 57 = .ok (.getfield 115, 3) := by decide +kernel
theorem dX11_count_60 : decode cX11_count 60 = .ok (.ireturn, 1) := by decide +kernel
theorem dX11_count_61 : decode cX11_count 61 = .ok (.aload_n 0, 1) := by decide +kernel
theorem dX11_count_62 : decode cX11_count 62 = .ok (.getfield 10, 3) := by decide +kernel
theorem dX11_count_65 : decode cX11_count 65 = .ok (.getfield 106, 3) := by decide +kernel
theorem dX11_count_68 : decode cX11_count 68 = .ok (.aload_n 0, 1) := by decide +kernel
theorem dX11_count_69 : decode cX11_count 69 = .ok (.getfield 10, 3) := by decide +kernel
theorem dX11_count_72 : decode cX11_count 72 = .ok (.getfield 115, 3) := by decide +kernel
theorem dX11_count_75 : decode cX11_count 75 = .ok (.invokestatic 221, 3) := by decide +kernel
theorem dX11_count_78 : decode cX11_count 78 = .ok (.ireturn, 1) := by decide +kernel
theorem dX11_count_79 : decode cX11_count 79 = .ok (.aload_n 0, 1) := by decide +kernel
theorem dX11_count_80 : decode cX11_count 80 = .ok (.getfield 10, 3) := by decide +kernel
theorem dX11_count_83 : decode cX11_count 83 = .ok (.getfield 109, 3) := by decide +kernel
theorem dX11_count_86 : decode cX11_count 86 = .ok (.aload_n 0, 1) := by decide +kernel
theorem dX11_count_87 : decode cX11_count 87 = .ok (.getfield 10, 3) := by decide +kernel
theorem dX11_count_90 : decode cX11_count 90 = .ok (.getfield 115, 3) := by decide +kernel
theorem dX11_count_93 : decode cX11_count 93 = .ok (.invokestatic 221, 3) := by decide +kernel
theorem dX11_count_96 : decode cX11_count 96 = .ok (.ireturn, 1) := by decide +kernel
theorem dX11_count_97 : decode cX11_count 97 = .ok (.aload_n 0, 1) := by decide +kernel
theorem dX11_count_98 : decode cX11_count 98 = .ok (.getfield 45, 3) := by decide +kernel
theorem dX11_count_101 : decode cX11_count 101 = .ok (.ireturn, 1) := by decide +kernel
theorem dX11_count_102 : decode cX11_count 102 = .ok (.aload_n 0, 1) := by decide +kernel
theorem dX11_count_103 : decode cX11_count 103 = .ok (.getfield 35, 3) := by decide +kernel
theorem dX11_count_106 : decode cX11_count 106 = .ok (.getfield 154, 3) := by decide +kernel
theorem dX11_count_109 : decode cX11_count 109 = .ok (.ireturn, 1) := by decide +kernel
theorem dX11_count_110 : decode cX11_count 110 = .ok (.aload_n 0, 1) := by decide +kernel
theorem dX11_count_111 : decode cX11_count 111 = .ok (.getfield 10, 3) := by decide +kernel
theorem dX11_count_114 : decode cX11_count 114 = .ok (.getfield 158, 3) := by decide +kernel
theorem dX11_count_117 : decode cX11_count 117 = .ok (.ireturn, 1) := by decide +kernel
theorem dX11_count_118 : decode cX11_count 118 = .ok (.aload_n 0, 1) := by decide +kernel
theorem dX11_count_119 : decode cX11_count 119 = .ok (.getfield 10, 3) := by decide +kernel
theorem dX11_count_122 : decode cX11_count 122 = .ok (.getfield 112, 3) := by decide +kernel
theorem dX11_count_125 : decode cX11_count 125 = .ok (.iconst 4, 1) := by decide +kernel
theorem dX11_count_126 : decode cX11_count 126 = .ok (.invokestatic 221, 3) := by decide +kernel
theorem dX11_count_129 : decode cX11_count 129 = .ok (.ireturn, 1) := by decide +kernel
theorem dX11_count_130 : decode cX11_count 130 = .ok (.bipush (-2), 2) := by decide +kernel
theorem dX11_count_132 : decode cX11_count 132 = .ok (.ireturn, 1) := by decide +kernel
theorem dX11_sheet_0 : decode cX11_sheet 0 = .ok (.iload_n 1, 1) := by decide +kernel
theorem dX11_sheet_1 : decode cX11_sheet 1 = .ok (.iconst 4, 1) := by decide +kernel
theorem dX11_sheet_2 : decode cX11_sheet 2 = .ok (.invokestatic 118, 3) := by decide +kernel
theorem dX11_sheet_5 : decode cX11_sheet 5 = .ok (.ifCond .ne 13, 3) := by decide +kernel
theorem dX11_sheet_8 : decode cX11_sheet 8 = .ok (.iload_n 2, 1) := by decide +kernel
theorem dX11_sheet_9 : decode cX11_sheet 9 = .ok (.iconst (-1), 1) := by decide +kernel
theorem dX11_sheet_10 : decode cX11_sheet 10 = .ok (.if_icmp .lt 8, 3) := by decide +kernel
theorem dX11_sheet_13 : decode cX11_sheet 13 = .ok (.iload_n 2, 1) := by decide +kernel
theorem dX11_sheet_14 : decode cX11_sheet 14 = .ok (.iconst 3, 1) := by decide +kernel
theorem dX11_sheet_15 : decode cX11_sheet 15 = .ok (.if_icmp .lt 6, 3) := by decide +kernel
theorem dX11_sheet_18 : decode cX11_sheet 18 = .ok (.bipush (-2), 2) := by decide +kernel
theorem dX11_sheet_20 : decode cX11_sheet 20 = .ok (.ireturn, 1) := by decide +kernel
theorem dX11_sheet_21 : decode cX11_sheet 21 = .ok (.iload_n 2, 1) := by decide +kernel
theorem dX11_sheet_22 : decode cX11_sheet 22 = .ok (.iconst (-1), 1) := by decide +kernel
theorem dX11_sheet_23 : decode cX11_sheet 23 = .ok (.if_icmp .ne 16, 3) := by decide +kernel
theorem dX11_sheet_26 : decode cX11_sheet 26 = .ok (.aload_n 0, 1) := by decide +kernel
theorem dX11_sheet_27 : decode cX11_sheet 27 = .ok (.getfield 50, 3) := by decide +kernel
theorem dX11_sheet_30 : decode cX11_sheet 30 = .ok (.iload_n 1, 1) := by decide +kernel
theorem dX11_sheet_31 : decode cX11_sheet 31 = .ok (.aaload, 1) := by decide +kernel
theorem dX11_sheet_32 : decode cX11_sheet 32 = .ok (.iconst (-1), 1) := by decide +kernel
theorem dX11_sheet_33 : decode cX11_sheet 33 = .ok (.iconst 0, 1) := by decide +kernel
theorem dX11_sheet_34 : decode cX11_sheet 34 = .ok (.invokevirtual 225, 3) := by decide +kernel
theorem dX11_sheet_37 : decode cX11_sheet 37 = .ok (.iconst 1, 1) := by decide +kernel
theorem dX11_sheet_38 : decode cX11_sheet 38 = .ok (.ireturn, 1) := by decide +kernel
theorem dX11_sheet_39 : decode cX11_sheet 39 = .ok (.iload_n 3, 1) := by decide +kernel
theorem dX11_sheet_40 : decode cX11_sheet 40 = .ok (.bipush 40, 2) := by decide +kernel
theorem dX11_sheet_42 : decode cX11_sheet 42 = .ok (.if_icmp .le 6, 3) := by decide +kernel
theorem dX11_sheet_45 : decode cX11_sheet 45 = .ok (.bipush (-2), 2) := by decide +kernel
theorem dX11_sheet_47 : decode cX11_sheet 47 = .ok (.ireturn, 1) := by decide +kernel
theorem dX11_sheet_48 : decode cX11_sheet 48 = .ok (.iload_n 3, 1) := by decide +kernel
theorem dX11_sheet_49 : decode cX11_sheet 49 = .ok (.ifCond .ge 6, 3) := by decide +kernel
theorem dX11_sheet_52 : decode cX11_sheet 52 = .ok (.bipush (-14), 2) := by decide +kernel
theorem dX11_sheet_54 : decode cX11_sheet 54 = .ok (.ireturn, 1) := by decide +kernel
theorem dX11_sheet_55 : decode cX11_sheet 55 = .ok (.aload_n 0, 1) := by decide +kernel
theorem dX11_sheet_56 : decode cX11_sheet 56 = .ok (.getfield 50, 3) := by decide +kernel
theorem dX11_sheet_59 : decode cX11_sheet 59 = .ok (.iload_n 1, 1) := by decide +kernel
theorem dX11_sheet_60 : decode cX11_sheet 60 = .ok (.aaload, 1) := by decide +kernel
theorem dX11_sheet_61 : decode cX11_sheet 61 = .ok (.iload_n 2, 1) := by decide +kernel
theorem dX11_sheet_62 : decode cX11_sheet 62 = .ok (.iload_n 3, 1) := by decide +kernel
theorem dX11_sheet_63 : decode cX11_sheet 63 = .ok (.invokevirtual 225, 3) := by decide +kernel
theorem dX11_sheet_66 : decode cX11_sheet 66 = .ok (.iconst 1, 1) := by decide +kernel
theorem dX11_sheet_67 : decode cX11_sheet 67 = .ok (.ireturn, 1) := by decide +kernel
theorem dX11_cell_0 : decode cX11_cell 0 = .ok (.iload_n 1, 1) := by decide +kernel
theorem dX11_cell_1 : decode cX11_cell 1 = .ok (.iconst 4, 1) := by decide +kernel
theorem dX11_cell_2 : decode cX11_cell 2 = .ok (.invokestatic 118, 3) := by decide +kernel
theorem dX11_cell_5 : decode cX11_cell 5 = .ok (.ifCond .eq 6, 3) := by decide +kernel
theorem dX11_cell_8 : decode cX11_cell 8 = .ok (.bipush (-2), 2) := by decide +kernel
theorem dX11_cell_10 : decode cX11_cell 10 = .ok (.ireturn, 1) := by decide +kernel
theorem dX11_cell_11 : decode cX11_cell 11 = .ok (.aload_n 0, 1) := by decide +kernel
theorem dX11_cell_12 : decode cX11_cell 12 = .ok (.getfield 50, 3) := by decide +kernel
theorem dX11_cell_15 : decode cX11_cell 15 = .ok (.iload_n 1, 1) := by decide +kernel
theorem dX11_cell_16 : decode cX11_cell 16 = .ok (.aaload, 1) := by decide +kernel
theorem dX11_cell_17 : decode cX11_cell 17 = .ok (.astore 4, 2) := by decide +kernel
theorem dX11_cell_19 : decode cX11_cell 19 = .ok (.aload 4, 2) := by decide +kernel
theorem dX11_cell_21 : decode cX11_cell 21 = .ok (.invokevirtual 208, 3) := by decide +kernel
theorem dX11_cell_24 : decode cX11_cell 24 = .ok (.ifCond .eq 6, 3) := by decide +kernel
theorem dX11_cell_27 : decode cX11_cell 27 = .ok (.bipush (-11), 2) := by decide +kernel
theorem dX11_cell_29 : decode cX11_cell 29 = .ok (.ireturn, 1) := by decide +kernel
theorem dX11_cell_30 : decode cX11_cell 30 = .ok (.iload_n 2, 1) := by decide +kernel
theorem dX11_cell_31 : decode cX11_cell 31 = .ok (.aload 4, 2) := by decide +kernel
theorem dX11_cell_33 : decode cX11_cell 33 = .ok (.getfield 228, 3) := by decide +kernel
theorem dX11_cell_36 : decode cX11_cell 36 = .ok (.invokestatic 118, 3) := by decide +kernel
theorem dX11_cell_39 : decode cX11_cell 39 = .ok (.ifCond .eq 6, 3) := by decide +kernel
theorem dX11_cell_42 : decode cX11_cell 42 = .ok (.bipush (-12), 2) := by decide +kernel
theorem dX11_cell_44 : decode cX11_cell 44 = .ok (.ireturn, 1) := by decide +kernel
theorem dX11_cell_45 : decode cX11_cell 45 = .ok (.aload 4, 2) := by decide +kernel
theorem dX11_cell_47 : decode cX11_cell 47 = .ok (.iload_n 2, 1) := by decide +kernel
theorem dX11_cell_48 : decode cX11_cell 48 = .ok (.iload_n 3, 1) := by decide +kernel
theorem dX11_cell_49 : decode cX11_cell 49 = .ok (.invokevirtual 230, 3) := by decide +kernel
theorem dX11_cell_52 : decode cX11_cell 52 = .ok (.iconst 1, 1) := by decide +kernel
theorem dX11_cell_53 : decode cX11_cell 53 = .ok (.ireturn, 1) := by decide +kernel
theorem dX11_copy_0 : decode cX11_copy 0 = .ok (.iload_n 1, 1) := by decide +kernel
theorem dX11_copy_1 : decode cX11_copy 1 = .ok (.iconst 4, 1) := by decide +kernel
theorem dX11_copy_2 : decode cX11_copy 2 = .ok (.invokestatic 118, 3) := by decide +kernel
theorem dX11_copy_5 : decode cX11_copy 5 = .ok (.ifCond .ne 11, 3) := by decide +kernel
theorem dX11_copy_8 : decode cX11_copy 8 = .ok (.iload_n 3, 1) := by decide +kernel
theorem dX11_copy_9 : decode cX11_copy 9 = .ok (.iconst 4, 1) := by decide +kernel
theorem dX11_copy_10 : decode cX11_copy 10 = .ok (.invokestatic 118, 3) := by decide +kernel
theorem dX11_copy_13 : decode cX11_copy 13 = .ok (.ifCond .eq 6, 3) := by decide +kernel
theorem dX11_copy_16 : decode cX11_copy 16 = .ok (.bipush (-2), 2) := by decide +kernel
theorem dX11_copy_18 : decode cX11_copy 18 = .ok (.ireturn, 1) := by decide +kernel
theorem dX11_copy_19 : decode cX11_copy 19 = .ok (.aload_n 0, 1) := by decide +kernel
theorem dX11_copy_20 : decode cX11_copy 20 = .ok (.getfield 50, 3) := by decide +kernel
theorem dX11_copy_23 : decode cX11_copy 23 = .ok (.iload_n 1, 1) := by decide +kernel
theorem dX11_copy_24 : decode cX11_copy 24 = .ok (.aaload, 1) := by decide +kernel
theorem dX11_copy_25 : decode cX11_copy 25 = .ok (.astore 6, 2) := by decide +kernel
theorem dX11_copy_27 : decode cX11_copy 27 = .ok (.aload_n 0, 1) := by decide +kernel
theorem dX11_copy_28 : decode cX11_copy 28 = .ok (.getfield 50, 3) := by decide +kernel
theorem dX11_copy_31 : decode cX11_copy 31 = .ok (.iload_n 3, 1) := by decide +kernel
theorem dX11_copy_32 : decode cX11_copy 32 = .ok (.aaload, 1) := by decide +kernel
theorem dX11_copy_33 : decode cX11_copy 33 = .ok (.astore 7, 2) := by decide +kernel
end
section
theorem dX11_copy_35 : decode cX11_copy 35 = .ok (.aload 6, 2) := by decide +kernel
theorem dX11_copy_37 : decode cX11_copy 37 = .ok (.invokevirtual 208, 3) := by decide +kernel
theorem dX11_copy_40 : decode cX11_copy 40 = .ok (.ifCond .ne 11, 3) := by decide +kernel
theorem dX11_copy_43 : decode cX11_copy 43 = .ok (.aload 7, 2) := by decide +kernel
theorem dX11_copy_45 : decode cX11_copy 45 = .ok (.invokevirtual 208, 3) := by decide +kernel
theorem dX11_copy_48 : decode cX11_copy 48 = .ok (.ifCond .eq 6, 3) := by decide +kernel
theorem dX11_copy_51 : decode cX11_copy 51 = .ok (.bipush (-11), 2) := by decide +kernel
theorem dX11_copy_53 : decode cX11_copy 53 = .ok (.ireturn, 1) := by decide +kernel
theorem dX11_copy_54 : decode cX11_copy 54 = .ok (.aload 6, 2) := by decide +kernel
theorem dX11_copy_56 : decode cX11_copy 56 = .ok (.getfield 232, 3) := by decide +kernel
theorem dX11_copy_59 : decode cX11_copy 59 = .ok (.aload 7, 2) := by decide +kernel
theorem dX11_copy_61 : decode cX11_copy 61 = .ok (.getfield 232, 3) := by decide +kernel
theorem dX11_copy_64 : decode cX11_copy 64 = .ok (.if_icmp .eq 6, 3) := by decide +kernel
theorem dX11_copy_67 : decode cX11_copy 67 = .ok (.bipush (-13), 2) := by decide +kernel
theorem dX11_copy_69 : decode cX11_copy 69 = .ok (.ireturn, 1) := by decide +kernel
theorem dX11_copy_70 : decode cX11_copy 70 = .ok (.aload 6, 2) := by decide +kernel
theorem dX11_copy_72 : decode cX11_copy 72 = .ok (.iload_n 2, 1) := by decide +kernel
theorem dX11_copy_73 : decode cX11_copy 73 = .ok (.iload 5, 2) := by decide +kernel
theorem dX11_copy_75 : decode cX11_copy 75 = .ok (.invokevirtual 235, 3) := by decide +kernel
theorem dX11_copy_78 : decode cX11_copy 78 = .ok (.ifCond .eq 15, 3) := by decide +kernel
theorem dX11_copy_81 : decode cX11_copy 81 = .ok (.aload 7, 2) := by decide +kernel
theorem dX11_copy_83 : decode cX11_copy 83 = .ok (.iload 4, 2) := by decide +kernel
theorem dX11_copy_85 : decode cX11_copy 85 = .ok (.iload 5, 2) := by decide +kernel
theorem dX11_copy_87 : decode cX11_copy 87 = .ok (.invokevirtual 235, 3) := by decide +kernel
theorem dX11_copy_90 : decode cX11_copy 90 = .ok (.ifCond .ne 6, 3) := by decide +kernel
theorem dX11_copy_93 : decode cX11_copy 93 = .ok (.bipush (-12), 2) := by decide +kernel
theorem dX11_copy_95 : decode cX11_copy 95 = .ok (.ireturn, 1) := by decide +kernel
theorem dX11_copy_96 : decode cX11_copy 96 = .ok (.aload 6, 2) := by decide +kernel
theorem dX11_copy_98 : decode cX11_copy 98 = .ok (.getfield 238, 3) := by decide +kernel
theorem dX11_copy_101 : decode cX11_copy 101 = .ok (.iload_n 2, 1) := by decide +kernel
theorem dX11_copy_102 : decode cX11_copy 102 = .ok (.aload 7, 2) := by decide +kernel
theorem dX11_copy_104 : decode cX11_copy 104 = .ok (.getfield 238, 3) := by decide +kernel
theorem dX11_copy_107 : decode cX11_copy 107 = .ok (.iload 4, 2) := by decide +kernel
theorem dX11_copy_109 : decode cX11_copy 109 = .ok (.iload 5, 2) := by decide +kernel
theorem dX11_copy_111 : decode cX11_copy 111 = .ok (.invokestatic 241, 3) := by decide +kernel
theorem dX11_copy_114 : decode cX11_copy 114 = .ok (.iload 5, 2) := by decide +kernel
theorem dX11_copy_116 : decode cX11_copy 116 = .ok (.ireturn, 1) := by decide +kernel
theorem dX11_singers_0 : decode cX11_singers 0 = .ok (.iload_n 1, 1) := by decide +kernel
theorem dX11_singers_1 : decode cX11_singers 1 = .ok (.iconst 4, 1) := by decide +kernel
theorem dX11_singers_2 : decode cX11_singers 2 = .ok (.invokestatic 118, 3) := by decide +kernel
theorem dX11_singers_5 : decode cX11_singers 5 = .ok (.ifCond .ne 23, 3) := by decide +kernel
theorem dX11_singers_8 : decode cX11_singers 8 = .ok (.iload_n 2, 1) := by decide +kernel
theorem dX11_singers_9 : decode cX11_singers 9 = .ok (.iconst 3, 1) := by decide +kernel
theorem dX11_singers_10 : decode cX11_singers 10 = .ok (.invokestatic 118, 3) := by decide +kernel
theorem dX11_singers_13 : decode cX11_singers 13 = .ok (.ifCond .ne 15, 3) := by decide +kernel
theorem dX11_singers_16 : decode cX11_singers 16 = .ok (.iload 4, 2) := by decide +kernel
theorem dX11_singers_18 : decode cX11_singers 18 = .ok (.ifCond .lt 10, 3) := by decide +kernel
theorem dX11_singers_21 : decode cX11_singers 21 = .ok (.iload 4, 2) := by decide +kernel
theorem dX11_singers_23 : decode cX11_singers 23 = .ok (.bipush 10, 2) := by decide +kernel
theorem dX11_singers_25 : decode cX11_singers 25 = .ok (.if_icmp .le 6, 3) := by decide +kernel
theorem dX11_singers_28 : decode cX11_singers 28 = .ok (.bipush (-2), 2) := by decide +kernel
theorem dX11_singers_30 : decode cX11_singers 30 = .ok (.ireturn, 1) := by decide +kernel
theorem dX11_singers_31 : decode cX11_singers 31 = .ok (.aload_n 0, 1) := by decide +kernel
theorem dX11_singers_32 : decode cX11_singers 32 = .ok (.getfield 50, 3) := by decide +kernel
theorem dX11_singers_35 : decode cX11_singers 35 = .ok (.iload_n 1, 1) := by decide +kernel
theorem dX11_singers_36 : decode cX11_singers 36 = .ok (.aaload, 1) := by decide +kernel
theorem dX11_singers_37 : decode cX11_singers 37 = .ok (.astore 5, 2) := by decide +kernel
theorem dX11_singers_39 : decode cX11_singers 39 = .ok (.aload 5, 2) := by decide +kernel
theorem dX11_singers_41 : decode cX11_singers 41 = .ok (.invokevirtual 208, 3) := by decide +kernel
theorem dX11_singers_44 : decode cX11_singers 44 = .ok (.ifCond .ne 15, 3) := by decide +kernel
theorem dX11_singers_47 : decode cX11_singers 47 = .ok (.aload 5, 2) := by decide +kernel
theorem dX11_singers_49 : decode cX11_singers 49 = .ok (.getfield 232, 3) := by decide +kernel
theorem dX11_singers_52 : decode cX11_singers 52 = .ok (.iload_n 2, 1) := by decide +kernel
theorem dX11_singers_53 : decode cX11_singers 53 = .ok (.if_icmp .eq 6, 3) := by decide +kernel
theorem dX11_singers_56 : decode cX11_singers 56 = .ok (.bipush (-13), 2) := by decide +kernel
theorem dX11_singers_58 : decode cX11_singers 58 = .ok (.ireturn, 1) := by decide +kernel
theorem dX11_singers_59 : decode cX11_singers 59 = .ok (.aload 5, 2) := by decide +kernel
theorem dX11_singers_61 : decode cX11_singers 61 = .ok (.invokevirtual 208, 3) := by decide +kernel
theorem dX11_singers_64 : decode cX11_singers 64 = .ok (.ifCond .eq 6, 3) := by decide +kernel
theorem dX11_singers_67 : decode cX11_singers 67 = .ok (.bipush (-11), 2) := by decide +kernel
theorem dX11_singers_69 : decode cX11_singers 69 = .ok (.ireturn, 1) := by decide +kernel
theorem dX11_singers_70 : decode cX11_singers 70 = .ok (.iconst 0, 1) := by decide +kernel
theorem dX11_singers_71 : decode cX11_singers 71 = .ok (.istore 6, 2) := by decide +kernel
theorem dX11_singers_73 : decode cX11_singers 73 = .ok (.iconst 0, 1) := by decide +kernel
theorem dX11_singers_74 : decode cX11_singers 74 = .ok (.istore 7, 2) := by decide +kernel
theorem dX11_singers_76 : decode cX11_singers 76 = .ok (.iload 7, 2) := by decide +kernel
theorem dX11_singers_78 : decode cX11_singers 78 = .ok (.iload 4, 2) := by decide +kernel
theorem dX11_singers_80 : decode cX11_singers 80 = .ok (.if_icmp .ge 69, 3) := by decide +kernel
theorem dX11_singers_83 : decode cX11_singers 83 = .ok (.iload_n 3, 1) := by decide +kernel
theorem dX11_singers_84 : decode cX11_singers 84 = .ok (.iconst 3, 1) := by decide +kernel
theorem dX11_singers_85 : decode cX11_singers 85 = .ok (.iload 7, 2) := by decide +kernel
theorem dX11_singers_87 : decode cX11_singers 87 = .ok (.imul, 1) := by decide +kernel
theorem dX11_singers_88 : decode cX11_singers 88 = .ok (.iadd, 1) := by decide +kernel
theorem dX11_singers_89 : decode cX11_singers 89 = .ok (.istore 8, 2) := by decide +kernel
theorem dX11_singers_91 : decode cX11_singers 91 = .ok (.aload 5, 2) := by decide +kernel
theorem dX11_singers_93 : decode cX11_singers 93 = .ok (.iload 8, 2) := by decide +kernel
theorem dX11_singers_95 : decode cX11_singers 95 = .ok (.iconst 3, 1) := by decide +kernel
theorem dX11_singers_96 : decode cX11_singers 96 = .ok (.invokevirtual 235, 3) := by decide +kernel
theorem dX11_singers_99 : decode cX11_singers 99 = .ok (.ifCond .ne 6, 3) := by decide +kernel
theorem dX11_singers_102 : decode cX11_singers 102 = .ok (.bipush (-12), 2) := by decide +kernel
theorem dX11_singers_104 : decode cX11_singers 104 = .ok (.ireturn, 1) := by decide +kernel
theorem dX11_singers_105 : decode cX11_singers 105 = .ok (.aload_n 0, 1) := by decide +kernel
theorem dX11_singers_106 : decode cX11_singers 106 = .ok (.aload 5, 2) := by decide +kernel
theorem dX11_singers_108 : decode cX11_singers 108 = .ok (.getfield 238, 3) := by decide +kernel
theorem dX11_singers_111 : decode cX11_singers 111 = .ok (.iload 8, 2) := by decide +kernel
theorem dX11_singers_113 : decode cX11_singers 113 = .ok (.iaload, 1) := by decide +kernel
theorem dX11_singers_114 : decode cX11_singers 114 = .ok (.aload 5, 2) := by decide +kernel
theorem dX11_singers_116 : decode cX11_singers 116 = .ok (.getfield 238, 3) := by decide +kernel
theorem dX11_singers_119 : decode cX11_singers 119 = .ok (.iload 8, 2) := by decide +kernel
theorem dX11_singers_121 : decode cX11_singers 121 = .ok (.iconst 1, 1) := by decide +kernel
theorem dX11_singers_122 : decode cX11_singers 122 = .ok (.iadd, 1) := by decide +kernel
theorem dX11_singers_123 : decode cX11_singers 123 = .ok (.iaload, 1) := by decide +kernel
theorem dX11_singers_124 : decode cX11_singers 124 = .ok (.aload 5, 2) := by decide +kernel
theorem dX11_singers_126 : decode cX11_singers 126 = .ok (.getfield 238, 3) := by decide +kernel
theorem dX11_singers_129 : decode cX11_singers 129 = .ok (.iload 8, 2) := by decide +kernel
theorem dX11_singers_131 : decode cX11_singers 131 = .ok (.iconst 2, 1) := by decide +kernel
theorem dX11_singers_132 : decode cX11_singers 132 = .ok (.iadd, 1) := by decide +kernel
theorem dX11_singers_133 : decode cX11_singers 133 = .ok (.iaload, 1) := by decide +kernel
theorem dX11_singers_134 : decode cX11_singers 134 = .ok (.invokevirtual 247, 3) := by decide +kernel
theorem dX11_singers_137 : decode cX11_singers 137 = .ok (.ifCond .lt 6, 3) := by decide +kernel
theorem dX11_singers_140 : decode cX11_singers 140 = .ok (.iinc 6 1, 3) := by decide +kernel
theorem dX11_singers_143 : decode cX11_singers 143 = .ok (.iinc 7 1, 3) := by decide +kernel
theorem dX11_singers_146 : decode cX11_singers 146 = .ok (.goto (-70), 3) := by decide +kernel
theorem dX11_singers_149 : decode cX11_singers 149 = .ok (.iload 6, 2) := by decide +kernel
theorem dX11_singers_151 : decode cX11_singers 151 = .ok (.ireturn, 1) := by decide +kernel
theorem dX11_taken_0 : decode cX11_taken 0 = .ok (.iload_n 2, 1) := by decide +kernel
theorem dX11_taken_1 : decode cX11_taken 1 = .ok (.bipush 6, 2) := by decide +kernel
theorem dX11_taken_3 : decode cX11_taken 3 = .ok (.invokestatic 118, 3) := by decide +kernel
theorem dX11_taken_6 : decode cX11_taken 6 = .ok (.ifCond .eq 6, 3) := by decide +kernel
theorem dX11_taken_9 : decode cX11_taken 9 = .ok (.bipush (-2), 2) := by decide +kernel
theorem dX11_taken_11 : decode cX11_taken 11 = .ok (.ireturn, 1) := by decide +kernel
theorem dX11_taken_12 : decode cX11_taken 12 = .ok (.iload_n 1, 1) := by decide +kernel
theorem dX11_taken_13 : decode cX11_taken 13 = .ok (.aload_n 0, 1) := by decide +kernel
theorem dX11_taken_14 : decode cX11_taken 14 = .ok (.getfield 29, 3) := by decide +kernel
theorem dX11_taken_17 : decode cX11_taken 17 = .ok (.invokestatic 118, 3) := by decide +kernel
theorem dX11_taken_20 : decode cX11_taken 20 = .ok (.ifCond .eq 6, 3) := by decide +kernel
theorem dX11_taken_23 : decode cX11_taken 23 = .ok (.bipush (-11), 2) := by decide +kernel
theorem dX11_taken_25 : decode cX11_taken 25 = .ok (.ireturn, 1) := by decide +kernel
theorem dX11_taken_26 : decode cX11_taken 26 = .ok (.aload_n 0, 1) := by decide +kernel
theorem dX11_taken_27 : decode cX11_taken 27 = .ok (.getfield 25, 3) := by decide +kernel
theorem dX11_taken_30 : decode cX11_taken 30 = .ok (.iload_n 1, 1) := by decide +kernel
theorem dX11_taken_31 : decode cX11_taken 31 = .ok (.aaload, 1) := by decide +kernel
theorem dX11_taken_32 : decode cX11_taken 32 = .ok (.astore_n 3, 1) := by decide +kernel
theorem dX11_taken_33 : decode cX11_taken 33 = .ok (.aload_n 3, 1) := by decide +kernel
theorem dX11_taken_34 : decode cX11_taken 34 = .ok (.iload_n 2, 1) := by decide +kernel
theorem dX11_taken_35 : decode cX11_taken 35 = .ok (.invokevirtual 251, 3) := by decide +kernel
theorem dX11_taken_38 : decode cX11_taken 38 = .ok (.ifCond .eq 10, 3) := by decide +kernel
theorem dX11_taken_41 : decode cX11_taken 41 = .ok (.aload_n 3, 1) := by decide +kernel
theorem dX11_taken_42 : decode cX11_taken 42 = .ok (.getfield 254, 3) := by decide +kernel
theorem dX11_taken_45 : decode cX11_taken 45 = .ok (.goto 5, 3) := by decide +kernel
theorem dX11_taken_48 : decode cX11_taken 48 = .ok (.bipush (-13), 2) := by decide +kernel
theorem dX11_taken_50 : decode cX11_taken 50 = .ok (.ireturn, 1) := by decide +kernel
theorem dX11_outside_0 : decode cX11_outside 0 = .ok (.iload_n 0, 1) := by decide +kernel
theorem dX11_outside_1 : decode cX11_outside 1 = .ok (.ifCond .lt 8, 3) := by decide +kernel
theorem dX11_outside_4 : decode cX11_outside 4 = .ok (.iload_n 0, 1) := by decide +kernel
theorem dX11_outside_5 : decode cX11_outside 5 = .ok (.iload_n 1, 1) := by decide +kernel
theorem dX11_outside_6 : decode cX11_outside 6 = .ok (.if_icmp .lt 7, 3) := by decide +kernel
theorem dX11_outside_9 : decode cX11_outside 9 = .ok (.iconst 1, 1) := by decide +kernel
theorem dX11_outside_10 : decode cX11_outside 10 = .ok (.goto 4, 3) := by decide +kernel
theorem dX11_outside_13 : decode cX11_outside 13 = .ok (.iconst 0, 1) := by decide +kernel
theorem dX11_outside_14 : decode cX11_outside 14 = .ok (.ireturn, 1) := by decide +kernel
theorem dX11_truth_0 : decode cX11_truth 0 = .ok (.iload_n 0, 1) := by decide +kernel
theorem dX11_truth_1 : decode cX11_truth 1 = .ok (.ifCond .eq 7, 3) := by decide +kernel
theorem dX11_truth_4 : decode cX11_truth 4 = .ok (.iconst 1, 1) := by decide +kernel
theorem dX11_truth_5 : decode cX11_truth 5 = .ok (.goto 4, 3) := by decide +kernel
theorem dX11_truth_8 : decode cX11_truth 8 = .ok (.iconst 0, 1) := by decide +kernel
theorem dX11_truth_9 : decode cX11_truth 9 = .ok (.ireturn, 1) := by decide +kernel
theorem dX11_change_0 : decode cX11_change 0 = .ok (.iload_n 1, 1) := by decide +kernel
theorem dX11_change_1 : decode cX11_change 1 = .ok (.aload_n 0, 1) := by decide +kernel
theorem dX11_change_2 : decode cX11_change 2 = .ok (.arraylength, 1) := by decide +kernel
theorem dX11_change_3 : decode cX11_change 3 = .ok (.invokestatic 118, 3) := by decide +kernel
theorem dX11_change_6 : decode cX11_change 6 = .ok (.ifCond .ne 11, 3) := by decide +kernel
theorem dX11_change_9 : decode cX11_change 9 = .ok (.iload_n 2, 1) := by decide +kernel
theorem dX11_change_10 : decode cX11_change 10 = .ok (.iload_n 3, 1) := by decide +kernel
theorem dX11_change_11 : decode cX11_change 11 = .ok (.invokestatic 118, 3) := by decide +kernel
theorem dX11_change_14 : decode cX11_change 14 = .ok (.ifCond .eq 6, 3) := by decide +kernel
theorem dX11_change_17 : decode cX11_change 17 = .ok (.bipush (-2), 2) := by decide +kernel
theorem dX11_change_19 : decode cX11_change 19 = .ok (.ireturn, 1) := by decide +kernel
theorem dX11_change_20 : decode cX11_change 20 = .ok (.aload_n 0, 1) := by decide +kernel
theorem dX11_change_21 : decode cX11_change 21 = .ok (.iload_n 1, 1) := by decide +kernel
theorem dX11_change_22 : decode cX11_change 22 = .ok (.iaload, 1) := by decide +kernel
theorem dX11_change_23 : decode cX11_change 23 = .ok (.istore 4, 2) := by decide +kernel
theorem dX11_change_25 : decode cX11_change 25 = .ok (.aload_n 0, 1) := by decide +kernel
theorem dX11_change_26 : decode cX11_change 26 = .ok (.iload_n 1, 1) := by decide +kernel
theorem dX11_change_27 : decode cX11_change 27 = .ok (.iload_n 2, 1) := by decide +kernel
theorem dX11_change_28 : decode cX11_change 28 = .ok (.iastore, 1) := by decide +kernel
theorem dX11_change_29 : decode cX11_change 29 = .ok (.iload 4, 2) := by decide +kernel
theorem dX11_change_31 : decode cX11_change 31 = .ok (.ireturn, 1) := by decide +kernel
theorem dX11_sumOf_0 : decode cX11_sumOf 0 = .ok (.iconst 0, 1) := by decide +kernel
theorem dX11_sumOf_1 : decode cX11_sumOf 1 = .ok (.istore_n 2, 1) := by decide +kernel
theorem dX11_sumOf_2 : decode cX11_sumOf 2 = .ok (.iconst 0, 1) := by decide +kernel
theorem dX11_sumOf_3 : decode cX11_sumOf 3 = .ok (.istore_n 3, 1) := by decide +kernel
theorem dX11_sumOf_4 : decode cX11_sumOf 4 = .ok (.iload_n 3, 1) := by decide +kernel
theorem dX11_sumOf_5 : decode cX11_sumOf 5 = .ok (.iload_n 1, 1) := by decide +kernel
theorem dX11_sumOf_6 : decode cX11_sumOf 6 = .ok (.if_icmp .ge 21, 3) := by decide +kernel
theorem dX11_sumOf_9 : decode cX11_sumOf 9 = .ok (.iload_n 3, 1) := by decide +kernel
theorem dX11_sumOf_10 : decode cX11_sumOf 10 = .ok (.aload_n 0, 1) := by decide +kernel
theorem dX11_sumOf_11 : decode cX11_sumOf 11 = .ok (.arraylength, 1) := by decide +kernel
theorem dX11_sumOf_12 : decode cX11_sumOf 12 = .ok (.if_icmp .ge 15, 3) := by decide +kernel
theorem dX11_sumOf_15 : decode cX11_sumOf 15 = .ok (.iload_n 2, 1) := by decide +kernel
theorem dX11_sumOf_16 : decode cX11_sumOf 16 = .ok (.aload_n 0, 1) := by decide +kernel
theorem dX11_sumOf_17 : decode cX11_sumOf 17 = .ok (.iload_n 3, 1) := by decide +kernel
theorem dX11_sumOf_18 : decode cX11_sumOf 18 = .ok (.iaload, 1) := by decide +kernel
theorem dX11_sumOf_19 : decode cX11_sumOf 19 = .ok (.iadd, 1) := by decide +kernel
theorem dX11_sumOf_20 : decode cX11_sumOf 20 = .ok (.istore_n 2, 1) := by decide +kernel
theorem dX11_sumOf_21 : decode cX11_sumOf 21 = .ok (.iinc 3 1, 3) := by decide +kernel
theorem dX11_sumOf_24 : decode cX11_sumOf 24 = .ok (.goto (-20), 3) := by decide +kernel
theorem dX11_sumOf_27 : decode cX11_sumOf 27 = .ok (.iload_n 2, 1) := by decide +kernel
theorem dX11_sumOf_28 : decode cX11_sumOf 28 = .ok (.ireturn, 1) := by decide +kernel
theorem dX11_newSinger_0 : decode cX11_newSinger 0 = .ok (.iload_n 0, 1) := by decide +kernel
theorem dX11_newSinger_1 : decode cX11_newSinger 1 = .ok (.tableswitch 90 1 5 #[35, 46, 57, 68, 79], 35) := by decide +kernel
theorem dX11_newSinger_36 : decode cX11_newSinger 36 = .ok (.new 257, 3) := by decide +kernel
theorem dX11_newSinger_39 : decode cX11_newSinger 39 = .ok (.dup, 1) := by decide +kernel
theorem dX11_newSinger_40 : decode cX11_newSinger 40 = .ok (.iload_n 1, 1) := by decide +kernel
theorem dX11_newSinger_41 : decode cX11_newSinger 41 = .ok (.iload_n 2, 1) := by decide +kernel
theorem dX11_newSinger_42 : decode cX11_newSinger 42 = .ok (.iload_n 3, 1) := by decide +kernel
theorem dX11_newSinger_43 : decode cX11_newSinger 43 = .ok (.invokespecial 259, 3) := by decide +kernel
theorem dX11_newSinger_46 : decode cX11_newSinger 46 = .ok (.areturn, 1) := by decide +kernel
theorem dX11_newSinger_47 : decode cX11_newSinger 47 = .ok (.new 262, 3) := by decide +kernel
theorem dX11_newSinger_50 : decode cX11_newSinger 50 = .ok (.dup, 1) := by decide +kernel
theorem dX11_newSinger_51 : decode cX11_newSinger 51 = .ok (.iload_n 1, 1) := by decide +kernel
theorem dX11_newSinger_52 : decode cX11_newSinger 52 = .ok (.iload_n 2, 1) := by decide +kernel
theorem dX11_newSinger_53 : decode cX11_newSinger 53 = .ok (.iload_n 3, 1) := by decide +kernel
theorem dX11_newSinger_54 : decode cX11_newSinger 54 = .ok (.invokespecial 264, 3) := by decide +kernel
theorem dX11_newSinger_57 : decode cX11_newSinger 57 = .ok (.areturn, 1) := by decide +kernel
theorem dX11_newSinger_58 : decode cX11_newSinger 58 = .ok (.new 265, 3) := by decide +kernel
theorem dX11_newSinger_61 : decode cX11_newSinger 61 = .ok (.dup, 1) := by decide +kernel
theorem dX11_newSinger_62 : decode cX11_newSinger 62 = .ok (.iload_n 1, 1) := by decide +kernel
theorem dX11_newSinger_63 : decode cX11_newSinger 63 = .ok (.iload_n 2, 1) := by decide +kernel
theorem dX11_newSinger_64 : decode cX11_newSinger 64 = .ok (.iload_n 3, 1) := by decide +kernel
theorem dX11_newSinger_65 : decode cX11_newSinger 65 = .ok (.invokespecial 267, 3) := by decide +kernel
theorem dX11_newSinger_68 : decode cX11_newSinger 68 = .ok (.areturn, 1) := by decide +kernel
theorem dX11_newSinger_69 : decode cX11_newSinger 69 = .ok (.new 268, 3) := by decide +kernel
theorem dX11_newSinger_72 : decode cX11_newSinger 72 = .ok (.dup, 1) := by decide +kernel
theorem dX11_newSinger_73 : decode cX11_newSinger 73 = .ok (.iload_n 1, 1) := by decide +kernel
theorem dX11_newSinger_74 : decode cX11_newSinger 74 = .ok (.iload_n 2, 1) := by decide +kernel
theorem dX11_newSinger_75 : decode cX11_newSinger 75 = .ok (.iload_n 3, 1) := by decide +kernel
theorem dX11_newSinger_76 : decode cX11_newSinger 76 = .ok (.invokespecial 270, 3) := by decide +kernel
theorem dX11_newSinger_79 : decode cX11_newSinger 79 = .ok (.areturn, 1) := by decide +kernel
theorem dX11_newSinger_80 : decode cX11_newSinger 80 = .ok (.new 271, 3) := by decide +kernel
theorem dX11_newSinger_83 : decode cX11_newSinger 83 = .ok (.dup, 1) := by decide +kernel
theorem dX11_newSinger_84 : decode cX11_newSinger 84 = .ok (.iload_n 1, 1) := by decide +kernel
theorem dX11_newSinger_85 : decode cX11_newSinger 85 = .ok (.iload_n 2, 1) := by decide +kernel
theorem dX11_newSinger_86 : decode cX11_newSinger 86 = .ok (.iload_n 3, 1) := by decide +kernel
theorem dX11_newSinger_87 : decode cX11_newSinger 87 = .ok (.invokespecial 273, 3) := by decide +kernel
theorem dX11_newSinger_90 : decode cX11_newSinger 90 = .ok (.areturn, 1) := by decide +kernel
theorem dX11_newSinger_91 : decode cX11_newSinger 91 = .ok (.new 23, 3) := by decide +kernel
theorem dX11_newSinger_94 : decode cX11_newSinger 94 = .ok (.dup, 1) := by decide +kernel
theorem dX11_newSinger_95 : decode cX11_newSinger 95 = .ok (.iload_n 1, 1) := by decide +kernel
theorem dX11_newSinger_96 : decode cX11_newSinger 96 = .ok (.iload_n 2, 1) := by decide +kernel
theorem dX11_newSinger_97 : decode cX11_newSinger 97 = .ok (.iload_n 3, 1) := by decide +kernel
theorem dX11_newSinger_98 : decode cX11_newSinger 98 = .ok (.invokespecial 274, 3) := by decide +kernel
theorem dX11_newSinger_101 : decode cX11_newSinger 101 = .ok (.areturn, 1) := by decide +kernel
theorem dX11_keepText_0 : decode cX11_keepText 0 = .ok (.aload_n 1, 1) := by decide +kernel
theorem dX11_keepText_1 : decode cX11_keepText 1 = .ok (.ifnull 32, 3) := by decide +kernel
theorem dX11_keepText_4 : decode cX11_keepText 4 = .ok (.aload_n 0, 1) := by decide +kernel
theorem dX11_keepText_5 : decode cX11_keepText 5 = .ok (.getfield 45, 3) := by decide +kernel
theorem dX11_keepText_8 : decode cX11_keepText 8 = .ok (.bipush 6, 2) := by decide +kernel
theorem dX11_keepText_10 : decode cX11_keepText 10 = .ok (.if_icmp .ge 23, 3) := by decide +kernel
theorem dX11_keepText_13 : decode cX11_keepText 13 = .ok (.aload_n 0, 1) := by decide +kernel
theorem dX11_keepText_14 : decode cX11_keepText 14 = .ok (.getfield 41, 3) := by decide +kernel
theorem dX11_keepText_17 : decode cX11_keepText 17 = .ok (.aload_n 0, 1) := by decide +kernel
theorem dX11_keepText_18 : decode cX11_keepText 18 = .ok (.getfield 45, 3) := by decide +kernel
theorem dX11_keepText_21 : decode cX11_keepText 21 = .ok (.aload_n 1, 1) := by decide +kernel
theorem dX11_keepText_22 : decode cX11_keepText 22 = .ok (.aastore, 1) := by decide +kernel
theorem dX11_keepText_23 : decode cX11_keepText 23 = .ok (.aload_n 0, 1) := by decide +kernel
theorem dX11_keepText_24 : decode cX11_keepText 24 = .ok (.dup, 1) := by decide +kernel
theorem dX11_keepText_25 : decode cX11_keepText 25 = .ok (.getfield 45, 3) := by decide +kernel
theorem dX11_keepText_28 : decode cX11_keepText 28 = .ok (.iconst 1, 1) := by decide +kernel
theorem dX11_keepText_29 : decode cX11_keepText 29 = .ok (.iadd, 1) := by decide +kernel
theorem dX11_keepText_30 : decode cX11_keepText 30 = .ok (.putfield 45, 3) := by decide +kernel
theorem dX11_keepText_33 : decode cX11_keepText 33 = .ok (.return_, 1) := by decide +kernel
theorem dX11_isPlan_0 : decode cX11_isPlan 0 = .ok (.iload_n 0, 1) := by decide +kernel
theorem dX11_isPlan_1 : decode cX11_isPlan 1 = .ok (.iconst 2, 1) := by decide +kernel
theorem dX11_isPlan_2 : decode cX11_isPlan 2 = .ok (.if_icmp .lt 13, 3) := by decide +kernel
theorem dX11_isPlan_5 : decode cX11_isPlan 5 = .ok (.iload_n 0, 1) := by decide +kernel
theorem dX11_isPlan_6 : decode cX11_isPlan 6 = .ok (.bipush 6, 2) := by decide +kernel
theorem dX11_isPlan_8 : decode cX11_isPlan 8 = .ok (.if_icmp .ge 7, 3) := by decide +kernel
theorem dX11_isPlan_11 : decode cX11_isPlan 11 = .ok (.iconst 1, 1) := by decide +kernel
theorem dX11_isPlan_12 : decode cX11_isPlan 12 = .ok (.goto 4, 3) := by decide +kernel
theorem dX11_isPlan_15 : decode cX11_isPlan 15 = .ok (.iconst 0, 1) := by decide +kernel
theorem dX11_isPlan_16 : decode cX11_isPlan 16 = .ok (.ireturn, 1) := by decide +kernel
theorem dX11_isMissing_0 : decode cX11_isMissing 0 = .ok (.iload_n 1, 1) := by decide +kernel
theorem dX11_isMissing_1 : decode cX11_isMissing 1 = .ok (.invokestatic 275, 3) := by decide +kernel
theorem dX11_isMissing_4 : decode cX11_isMissing 4 = .ok (.ifCond .eq 21, 3) := by decide +kernel
theorem dX11_isMissing_7 : decode cX11_isMissing 7 = .ok (.aload_n 0, 1) := by decide +kernel
theorem dX11_isMissing_8 : decode cX11_isMissing 8 = .ok (.getfield 50, 3) := by decide +kernel
theorem dX11_isMissing_11 : decode cX11_isMissing 11 = .ok (.iload_n 1, 1) := by decide +kernel
theorem dX11_isMissing_12 : decode cX11_isMissing 12 = .ok (.iconst 2, 1) := by decide +kernel
theorem dX11_isMissing_13 : decode cX11_isMissing 13 = .ok (.isub, 1) := by decide +kernel
theorem dX11_isMissing_14 : decode cX11_isMissing 14 = .ok (.aaload, 1) := by decide +kernel
theorem dX11_isMissing_15 : decode cX11_isMissing 15 = .ok (.invokevirtual 208, 3) := by decide +kernel
theorem dX11_isMissing_18 : decode cX11_isMissing 18 = .ok (.ifCond .eq 7, 3) := by decide +kernel
theorem dX11_isMissing_21 : decode cX11_isMissing 21 = .ok (.iconst 1, 1) := by decide +kernel
theorem dX11_isMissing_22 : decode cX11_isMissing 22 = .ok (.goto 4, 3) := by decide +kernel
theorem dX11_isMissing_25 : decode cX11_isMissing 25 = .ok (.iconst 0, 1) := by decide +kernel
theorem dX11_isMissing_26 : decode cX11_isMissing 26 = .ok (.ireturn, 1) := by decide +kernel
theorem dX11_prepare_0 : decode cX11_prepare 0 = .ok (.aload_n 0, 1) := by decide +kernel
theorem dX11_prepare_1 : decode cX11_prepare 1 = .ok (.getfield 59, 3) := by decide +kernel
theorem dX11_prepare_4 : decode cX11_prepare 4 = .ok (.iload_n 1, 1) := by decide +kernel
theorem dX11_prepare_5 : decode cX11_prepare 5 = .ok (.aload_n 0, 1) := by decide +kernel
theorem dX11_prepare_6 : decode cX11_prepare 6 = .ok (.getfield 29, 3) := by decide +kernel
theorem dX11_prepare_9 : decode cX11_prepare 9 = .ok (.aload_n 0, 1) := by decide +kernel
theorem dX11_prepare_10 : decode cX11_prepare 10 = .ok (.getfield 41, 3) := by decide +kernel
theorem dX11_prepare_13 : decode cX11_prepare 13 = .ok (.aload_n 0, 1) := by decide +kernel
theorem dX11_prepare_14 : decode cX11_prepare 14 = .ok (.getfield 10, 3) := by decide +kernel
theorem dX11_prepare_17 : decode cX11_prepare 17 = .ok (.getfield 158, 3) := by decide +kernel
theorem dX11_prepare_20 : decode cX11_prepare 20 = .ok (.aaload, 1) := by decide +kernel
theorem dX11_prepare_21 : decode cX11_prepare 21 = .ok (.invokevirtual 278, 3) := by decide +kernel
theorem dX11_prepare_24 : decode cX11_prepare 24 = .ok (.iload_n 1, 1) := by decide +kernel
theorem dX11_prepare_25 : decode cX11_prepare 25 = .ok (.invokestatic 275, 3) := by decide +kernel
theorem dX11_prepare_28 : decode cX11_prepare 28 = .ok (.ifCond .eq 18, 3) := by decide +kernel
theorem dX11_prepare_31 : decode cX11_prepare 31 = .ok (.aload_n 0, 1) := by decide +kernel
theorem dX11_prepare_32 : decode cX11_prepare 32 = .ok (.getfield 59, 3) := by decide +kernel
theorem dX11_prepare_35 : decode cX11_prepare 35 = .ok (.aload_n 0, 1) := by decide +kernel
theorem dX11_prepare_36 : decode cX11_prepare 36 = .ok (.getfield 50, 3) := by decide +kernel
theorem dX11_prepare_39 : decode cX11_prepare 39 = .ok (.iload_n 1, 1) := by decide +kernel
theorem dX11_prepare_40 : decode cX11_prepare 40 = .ok (.iconst 2, 1) := by decide +kernel
theorem dX11_prepare_41 : decode cX11_prepare 41 = .ok (.isub, 1) := by decide +kernel
theorem dX11_prepare_42 : decode cX11_prepare 42 = .ok (.aaload, 1) := by decide +kernel
theorem dX11_prepare_43 : decode cX11_prepare 43 = .ok (.invokevirtual 282, 3) := by decide +kernel
theorem dX11_prepare_46 : decode cX11_prepare 46 = .ok (.aload_n 0, 1) := by decide +kernel
theorem dX11_prepare_47 : decode cX11_prepare 47 = .ok (.getfield 59, 3) := by decide +kernel
theorem dX11_prepare_50 : decode cX11_prepare 50 = .ok (.invokevirtual 286, 3) := by decide +kernel
theorem dX11_prepare_53 : decode cX11_prepare 53 = .ok (.return_, 1) := by decide +kernel
theorem dX11_perform_0 : decode cX11_perform 0 = .ok (.aload_n 0, 1) := by decide +kernel
theorem dX11_perform_1 : decode cX11_perform 1 = .ok (.iload_n 1, 1) := by decide +kernel
theorem dX11_perform_2 : decode cX11_perform 2 = .ok (.invokevirtual 174, 3) := by decide +kernel
theorem dX11_perform_5 : decode cX11_perform 5 = .ok (.iconst 0, 1) := by decide +kernel
theorem dX11_perform_6 : decode cX11_perform 6 = .ok (.istore_n 3, 1) := by decide +kernel
theorem dX11_perform_7 : decode cX11_perform 7 = .ok (.iload_n 3, 1) := by decide +kernel
theorem dX11_perform_8 : decode cX11_perform 8 = .ok (.iload_n 2, 1) := by decide +kernel
theorem dX11_perform_9 : decode cX11_perform 9 = .ok (.if_icmp .gt 37, 3) := by decide +kernel
theorem dX11_perform_12 : decode cX11_perform 12 = .ok (.iload_n 3, 1) := by decide +kernel
theorem dX11_perform_13 : decode cX11_perform 13 = .ok (.aload_n 0, 1) := by decide +kernel
theorem dX11_perform_14 : decode cX11_perform 14 = .ok (.getfield 10, 3) := by decide +kernel
theorem dX11_perform_17 : decode cX11_perform 17 = .ok (.getfield 115, 3) := by decide +kernel
theorem dX11_perform_20 : decode cX11_perform 20 = .ok (.if_icmp .ge 26, 3) := by decide +kernel
theorem dX11_perform_23 : decode cX11_perform 23 = .ok (.aload_n 0, 1) := by decide +kernel
theorem dX11_perform_24 : decode cX11_perform 24 = .ok (.getfield 59, 3) := by decide +kernel
theorem dX11_perform_27 : decode cX11_perform 27 = .ok (.iload_n 3, 1) := by decide +kernel
theorem dX11_perform_28 : decode cX11_perform 28 = .ok (.aload_n 0, 1) := by decide +kernel
theorem dX11_perform_29 : decode cX11_perform 29 = .ok (.getfield 10, 3) := by decide +kernel
theorem dX11_perform_32 : decode cX11_perform 32 = .ok (.getfield 98, 3) := by decide +kernel
theorem dX11_perform_35 : decode cX11_perform 35 = .ok (.iload_n 3, 1) := by decide +kernel
theorem dX11_perform_36 : decode cX11_perform 36 = .ok (.iaload, 1) := by decide +kernel
theorem dX11_perform_37 : decode cX11_perform 37 = .ok (.invokevirtual 177, 3) := by decide +kernel
theorem dX11_perform_40 : decode cX11_perform 40 = .ok (.iinc 3 1, 3) := by decide +kernel
theorem dX11_perform_43 : decode cX11_perform 43 = .ok (.goto (-36), 3) := by decide +kernel
theorem dX11_perform_46 : decode cX11_perform 46 = .ok (.return_, 1) := by decide +kernel
theorem dX11_earlierLike_0 : decode cX11_earlierLike 0 = .ok (.iconst 0, 1) := by decide +kernel
theorem dX11_earlierLike_1 : decode cX11_earlierLike 1 = .ok (.istore_n 2, 1) := by decide +kernel
theorem dX11_earlierLike_2 : decode cX11_earlierLike 2 = .ok (.iload_n 2, 1) := by decide +kernel
theorem dX11_earlierLike_3 : decode cX11_earlierLike 3 = .ok (.iload_n 1, 1) := by decide +kernel
theorem dX11_earlierLike_4 : decode cX11_earlierLike 4 = .ok (.if_icmp .ge 43, 3) := by decide +kernel
theorem dX11_earlierLike_7 : decode cX11_earlierLike 7 = .ok (.aload_n 0, 1) := by decide +kernel
theorem dX11_earlierLike_8 : decode cX11_earlierLike 8 = .ok (.getfield 63, 3) := by decide +kernel
theorem dX11_earlierLike_11 : decode cX11_earlierLike 11 = .ok (.iload_n 2, 1) := by decide +kernel
theorem dX11_earlierLike_12 : decode cX11_earlierLike 12 = .ok (.laload, 1) := by decide +kernel
theorem dX11_earlierLike_13 : decode cX11_earlierLike 13 = .ok (.aload_n 0, 1) := by decide +kernel
theorem dX11_earlierLike_14 : decode cX11_earlierLike 14 = .ok (.getfield 63, 3) := by decide +kernel
theorem dX11_earlierLike_17 : decode cX11_earlierLike 17 = .ok (.iload_n 1, 1) := by decide +kernel
theorem dX11_earlierLike_18 : decode cX11_earlierLike 18 = .ok (.laload, 1) := by decide +kernel
theorem dX11_earlierLike_19 : decode cX11_earlierLike 19 = .ok (.lcmp, 1) := by decide +kernel
theorem dX11_earlierLike_20 : decode cX11_earlierLike 20 = .ok (.ifCond .ne 21, 3) := by decide +kernel
theorem dX11_earlierLike_23 : decode cX11_earlierLike 23 = .ok (.aload_n 0, 1) := by decide +kernel
theorem dX11_earlierLike_24 : decode cX11_earlierLike 24 = .ok (.getfield 67, 3) := by decide +kernel
theorem dX11_earlierLike_27 : decode cX11_earlierLike 27 = .ok (.iload_n 2, 1) := by decide +kernel
theorem dX11_earlierLike_28 : decode cX11_earlierLike 28 = .ok (.laload, 1) := by decide +kernel
theorem dX11_earlierLike_29 : decode cX11_earlierLike 29 = .ok (.aload_n 0, 1) := by decide +kernel
theorem dX11_earlierLike_30 : decode cX11_earlierLike 30 = .ok (.getfield 67, 3) := by decide +kernel
theorem dX11_earlierLike_33 : decode cX11_earlierLike 33 = .ok (.iload_n 1, 1) := by decide +kernel
theorem dX11_earlierLike_34 : decode cX11_earlierLike 34 = .ok (.laload, 1) := by decide +kernel
theorem dX11_earlierLike_35 : decode cX11_earlierLike 35 = .ok (.lcmp, 1) := by decide +kernel
theorem dX11_earlierLike_36 : decode cX11_earlierLike 36 = .ok (.ifCond .ne 5, 3) := by decide +kernel
theorem dX11_earlierLike_39 : decode cX11_earlierLike 39 = .ok (.iload_n 2, 1) := by decide +kernel
theorem dX11_earlierLike_40 : decode cX11_earlierLike 40 = .ok (.ireturn, 1) := by decide +kernel
theorem dX11_earlierLike_41 : decode cX11_earlierLike 41 = .ok (.iinc 2 1, 3) := by decide +kernel
theorem dX11_earlierLike_44 : decode cX11_earlierLike 44 = .ok (.goto (-42), 3) := by decide +kernel
theorem dX11_earlierLike_47 : decode cX11_earlierLike 47 = .ok (.iconst (-1), 1) := by decide +kernel
theorem dX11_earlierLike_48 : decode cX11_earlierLike 48 = .ok (.ireturn, 1) := by decide +kernel
theorem dX12_init_0 : decode cX12_init 0 = .ok (.aload_n 0, 1) := by decide +kernel
theorem dX12_init_1 : decode cX12_init 1 = .ok (.invokespecial 1, 3) := by decide +kernel
theorem dX12_init_4 : decode cX12_init 4 = .ok (.aload_n 0, 1) := by decide +kernel
theorem dX12_init_5 : decode cX12_init 5 = .ok (.bipush 24, 2) := by decide +kernel
theorem dX12_init_7 : decode cX12_init 7 = .ok (.putfield 7, 3) := by decide +kernel
theorem dX12_init_10 : decode cX12_init 10 = .ok (.aload_n 0, 1) := by decide +kernel
theorem dX12_init_11 : decode cX12_init 11 = .ok (.bipush 48, 2) := by decide +kernel
theorem dX12_init_13 : decode cX12_init 13 = .ok (.newarray .int, 2) := by decide +kernel
theorem dX12_init_15 : decode cX12_init 15 = .ok (.dup, 1) := by decide +kernel
theorem dX12_init_16 : decode cX12_init 16 = .ok (.iconst 0, 1) := by decide +kernel
theorem dX12_init_17 : decode cX12_init 17 = .ok (.iconst 3, 1) := by decide +kernel
theorem dX12_init_18 : decode cX12_init 18 = .ok (.iastore, 1) := by decide +kernel
theorem dX12_init_19 : decode cX12_init 19 = .ok (.dup, 1) := by decide +kernel
theorem dX12_init_20 : decode cX12_init 20 = .ok (.iconst 1, 1) := by decide +kernel
theorem dX12_init_21 : decode cX12_init 21 = .ok (.iconst 3, 1) := by decide +kernel
theorem dX12_init_22 : decode cX12_init 22 = .ok (.iastore, 1) := by decide +kernel
theorem dX12_init_23 : decode cX12_init 23 = .ok (.dup, 1) := by decide +kernel
theorem dX12_init_24 : decode cX12_init 24 = .ok (.iconst 2, 1) := by decide +kernel
theorem dX12_init_25 : decode cX12_init 25 = .ok (.iconst 3, 1) := by decide +kernel
theorem dX12_init_26 : decode cX12_init 26 = .ok (.iastore, 1) := by decide +kernel
theorem dX12_init_27 : decode cX12_init 27 = .ok (.dup, 1) := by decide +kernel
theorem dX12_init_28 : decode cX12_init 28 = .ok (.iconst 3, 1) := by decide +kernel
theorem dX12_init_29 : decode cX12_init 29 = .ok (.iconst 3, 1) := by decide +kernel
theorem dX12_init_30 : decode cX12_init 30 = .ok (.iastore, 1) := by decide +kernel
theorem dX12_init_31 : decode cX12_init 31 = .ok (.dup, 1) := by decide +kernel
theorem dX12_init_32 : decode cX12_init 32 = .ok (.iconst 4, 1) := by decide +kernel
theorem dX12_init_33 : decode cX12_init 33 = .ok (.iconst 3, 1) := by decide +kernel
theorem dX12_init_34 : decode cX12_init 34 = .ok (.iastore, 1) := by decide +kernel
theorem dX12_init_35 : decode cX12_init 35 = .ok (.dup, 1) := by decide +kernel
theorem dX12_init_36 : decode cX12_init 36 = .ok (.iconst 5, 1) := by decide +kernel
theorem dX12_init_37 : decode cX12_init 37 = .ok (.iconst 3, 1) := by decide +kernel
theorem dX12_init_38 : decode cX12_init 38 = .ok (.iastore, 1) := by decide +kernel
theorem dX12_init_39 : decode cX12_init 39 = .ok (.dup, 1) := by decide +kernel
theorem dX12_init_40 : decode cX12_init 40 = .ok (.bipush 6, 2) := by decide +kernel
theorem dX12_init_42 : decode cX12_init 42 = .ok (.iconst 3, 1) := by decide +kernel
theorem dX12_init_43 : decode cX12_init 43 = .ok (.iastore, 1) := by decide +kernel
theorem dX12_init_44 : decode cX12_init 44 = .ok (.dup, 1) := by decide +kernel
theorem dX12_init_45 : decode cX12_init 45 = .ok (.bipush 7, 2) := by decide +kernel
theorem dX12_init_47 : decode cX12_init 47 = .ok (.iconst 3, 1) := by decide +kernel
theorem dX12_init_48 : decode cX12_init 48 = .ok (.iastore, 1) := by decide +kernel
theorem dX12_init_49 : decode cX12_init 49 = .ok (.dup, 1) := by decide +kernel
theorem dX12_init_50 : decode cX12_init 50 = .ok (.bipush 8, 2) := by decide +kernel
theorem dX12_init_52 : decode cX12_init 52 = .ok (.iconst 3, 1) := by decide +kernel
theorem dX12_init_53 : decode cX12_init 53 = .ok (.iastore, 1) := by decide +kernel
theorem dX12_init_54 : decode cX12_init 54 = .ok (.dup, 1) := by decide +kernel
theorem dX12_init_55 : decode cX12_init 55 = .ok (.bipush 9, 2) := by decide +kernel
theorem dX12_init_57 : decode cX12_init 57 = .ok (.iconst 3, 1) := by decide +kernel
theorem dX12_init_58 : decode cX12_init 58 = .ok (.iastore, 1) := by decide +kernel
theorem dX12_init_59 : decode cX12_init 59 = .ok (.dup, 1) := by decide +kernel
theorem dX12_init_60 : decode cX12_init 60 = .ok (.bipush 10, 2) := by decide +kernel
theorem dX12_init_62 : decode cX12_init 62 = .ok (.iconst 3, 1) := by decide +kernel
theorem dX12_init_63 : decode cX12_init 63 = .ok (.iastore, 1) := by decide +kernel
theorem dX12_init_64 : decode cX12_init 64 = .ok (.dup, 1) := by decide +kernel
theorem dX12_init_65 : decode cX12_init 65 = .ok (.bipush 11, 2) := by decide +kernel
theorem dX12_init_67 : decode cX12_init 67 = .ok (.iconst 3, 1) := by decide +kernel
theorem dX12_init_68 : decode cX12_init 68 = .ok (.iastore, 1) := by decide +kernel
theorem dX12_init_69 : decode cX12_init 69 = .ok (.dup, 1) := by decide +kernel
theorem dX12_init_70 : decode cX12_init 70 = .ok (.bipush 12, 2) := by decide +kernel
theorem dX12_init_72 : decode cX12_init 72 = .ok (.iconst 3, 1) := by decide +kernel
theorem dX12_init_73 : decode cX12_init 73 = .ok (.iastore, 1) := by decide +kernel
theorem dX12_init_74 : decode cX12_init 74 = .ok (.dup, 1) := by decide +kernel
theorem dX12_init_75 : decode cX12_init 75 = .ok (.bipush 13, 2) := by decide +kernel
theorem dX12_init_77 : decode cX12_init 77 = .ok (.iconst 3, 1) := by decide +kernel
theorem dX12_init_78 : decode cX12_init 78 = .ok (.iastore, 1) := by decide +kernel
theorem dX12_init_79 : decode cX12_init 79 = .ok (.dup, 1) := by decide +kernel
theorem dX12_init_80 : decode cX12_init 80 = .ok (.bipush 14, 2) := by decide +kernel
theorem dX12_init_82 : decode cX12_init 82 = .ok (.iconst 3, 1) := by decide +kernel
theorem dX12_init_83 : decode cX12_init 83 = .ok (.iastore, 1) := by decide +kernel
theorem dX12_init_84 : decode cX12_init 84 = .ok (.dup, 1) := by decide +kernel
theorem dX12_init_85 : decode cX12_init 85 = .ok (.bipush 15, 2) := by decide +kernel
theorem dX12_init_87 : decode cX12_init 87 = .ok (.iconst 3, 1) := by decide +kernel
theorem dX12_init_88 : decode cX12_init 88 = .ok (.iastore, 1) := by decide +kernel
theorem dX12_init_89 : decode cX12_init 89 = .ok (.dup, 1) := by decide +kernel
theorem dX12_init_90 : decode cX12_init 90 = .ok (.bipush 16, 2) := by decide +kernel
theorem dX12_init_92 : decode cX12_init 92 = .ok (.iconst 3, 1) := by decide +kernel
theorem dX12_init_93 : decode cX12_init 93 = .ok (.iastore, 1) := by decide +kernel
theorem dX12_init_94 : decode cX12_init 94 = .ok (.dup, 1) := by decide +kernel
theorem dX12_init_95 : decode cX12_init 95 = .ok (.bipush 17, 2) := by decide +kernel
theorem dX12_init_97 : decode cX12_init 97 = .ok (.iconst 3, 1) := by decide +kernel
theorem dX12_init_98 : decode cX12_init 98 = .ok (.iastore, 1) := by decide +kernel
theorem dX12_init_99 : decode cX12_init 99 = .ok (.dup, 1) := by decide +kernel
theorem dX12_init_100 : decode cX12_init 100 = .ok (.bipush 18, 2) := by decide +kernel
theorem dX12_init_102 : decode cX12_init 102 = .ok (.iconst 3, 1) := by decide +kernel
theorem dX12_init_103 : decode cX12_init 103 = .ok (.iastore, 1) := by decide +kernel
theorem dX12_init_104 : decode cX12_init 104 = .ok (.dup, 1) := by decide +kernel
theorem dX12_init_105 : decode cX12_init 105 = .ok (.bipush 19, 2) := by decide +kernel
theorem dX12_init_107 : decode cX12_init 107 = .ok (.iconst 3, 1) := by decide +kernel
theorem dX12_init_108 : decode cX12_init 108 = .ok (.iastore, 1) := by decide +kernel
theorem dX12_init_109 : decode cX12_init 109 = .ok (.dup, 1) := by decide +kernel
theorem dX12_init_110 : decode cX12_init 110 = .ok (.bipush 20, 2) := by decide +kernel
theorem dX12_init_112 : decode cX12_init 112 = .ok (.iconst 3, 1) := by decide +kernel
theorem dX12_init_113 : decode cX12_init 113 = .ok (.iastore, 1) := by decide +kernel
theorem dX12_init_114 : decode cX12_init 114 = .ok (.dup, 1) := by decide +kernel
theorem dX12_init_115 : decode cX12_init 115 = .ok (.bipush 21, 2) := by decide +kernel
theorem dX12_init_117 : decode cX12_init 117 = .ok (.iconst 3, 1) := by decide +kernel
theorem dX12_init_118 : decode cX12_init 118 = .ok (.iastore, 1) := by decide +kernel
theorem dX12_init_119 : decode cX12_init 119 = .ok (.dup, 1) := by decide +kernel
theorem dX12_init_120 : decode cX12_init 120 = .ok (.bipush 22, 2) := by decide +kernel
theorem dX12_init_122 : decode cX12_init 122 = .ok (.iconst 3, 1) := by decide +kernel
theorem dX12_init_123 : decode cX12_init 123 = .ok (.iastore, 1) := by decide +kernel
theorem dX12_init_124 : decode cX12_init 124 = .ok (.dup, 1) := by decide +kernel
theorem dX12_init_125 : decode cX12_init 125 = .ok (.bipush 23, 2) := by decide +kernel
theorem dX12_init_127 : decode cX12_init 127 = .ok (.iconst 3, 1) := by decide +kernel
theorem dX12_init_128 : decode cX12_init 128 = .ok (.iastore, 1) := by decide +kernel
theorem dX12_init_129 : decode cX12_init 129 = .ok (.dup, 1) := by decide +kernel
theorem dX12_init_130 : decode cX12_init 130 = .ok (.bipush 24, 2) := by decide +kernel
theorem dX12_init_132 : decode cX12_init 132 = .ok (.iconst 3, 1) := by decide +kernel
theorem dX12_init_133 : decode cX12_init 133 = .ok (.iastore, 1) := by decide +kernel
theorem dX12_init_134 : decode cX12_init 134 = .ok (.dup, 1) := by decide +kernel
theorem dX12_init_135 : decode cX12_init 135 = .ok (.bipush 25, 2) := by decide +kernel
theorem dX12_init_137 : decode cX12_init 137 = .ok (.iconst 3, 1) := by decide +kernel
theorem dX12_init_138 : decode cX12_init 138 = .ok (.iastore, 1) := by decide +kernel
theorem dX12_init_139 : decode cX12_init 139 = .ok (.dup, 1) := by decide +kernel
theorem dX12_init_140 : decode cX12_init 140 = .ok (.bipush 26, 2) := by decide +kernel
theorem dX12_init_142 : decode cX12_init 142 = .ok (.iconst 3, 1) := by decide +kernel
theorem dX12_init_143 : decode cX12_init 143 = .ok (.iastore, 1) := by decide +kernel
theorem dX12_init_144 : decode cX12_init 144 = .ok (.dup, 1) := by decide +kernel
theorem dX12_init_145 : decode cX12_init 145 = .ok (.bipush 27, 2) := by decide +kernel
theorem dX12_init_147 : decode cX12_init 147 = .ok (.iconst 3, 1) := by decide +kernel
theorem dX12_init_148 : decode cX12_init 148 = .ok (.iastore, 1) := by decide +kernel
theorem dX12_init_149 : decode cX12_init 149 = .ok (.dup, 1) := by decide +kernel
theorem dX12_init_150 : decode cX12_init 150 = .ok (.bipush 28, 2) := by decide +kernel
theorem dX12_init_152 : decode cX12_init 152 = .ok (.iconst 3, 1) := by decide +kernel
theorem dX12_init_153 : decode cX12_init 153 = .ok (.iastore, 1) := by decide +kernel
theorem dX12_init_154 : decode cX12_init 154 = .ok (.dup, 1) := by decide +kernel
theorem dX12_init_155 : decode cX12_init 155 = .ok (.bipush 29, 2) := by decide +kernel
theorem dX12_init_157 : decode cX12_init 157 = .ok (.iconst 3, 1) := by decide +kernel
theorem dX12_init_158 : decode cX12_init 158 = .ok (.iastore, 1) := by decide +kernel
theorem dX12_init_159 : decode cX12_init 159 = .ok (.dup, 1) := by decide +kernel
theorem dX12_init_160 : decode cX12_init 160 = .ok (.bipush 30, 2) := by decide +kernel
theorem dX12_init_162 : decode cX12_init 162 = .ok (.iconst 3, 1) := by decide +kernel
theorem dX12_init_163 : decode cX12_init 163 = .ok (.iastore, 1) := by decide +kernel
theorem dX12_init_164 : decode cX12_init 164 = .ok (.dup, 1) := by decide +kernel
theorem dX12_init_165 : decode cX12_init 165 = .ok (.bipush 31, 2) := by decide +kernel
theorem dX12_init_167 : decode cX12_init 167 = .ok (.iconst 3, 1) := by decide +kernel
theorem dX12_init_168 : decode cX12_init 168 = .ok (.iastore, 1) := by decide +kernel
theorem dX12_init_169 : decode cX12_init 169 = .ok (.dup, 1) := by decide +kernel
theorem dX12_init_170 : decode cX12_init 170 = .ok (.bipush 32, 2) := by decide +kernel
theorem dX12_init_172 : decode cX12_init 172 = .ok (.iconst 3, 1) := by decide +kernel
theorem dX12_init_173 : decode cX12_init 173 = .ok (.iastore, 1) := by decide +kernel
theorem dX12_init_174 : decode cX12_init 174 = .ok (.dup, 1) := by decide +kernel
theorem dX12_init_175 : decode cX12_init 175 = .ok (.bipush 33, 2) := by decide +kernel
theorem dX12_init_177 : decode cX12_init 177 = .ok (.iconst 3, 1) := by decide +kernel
theorem dX12_init_178 : decode cX12_init 178 = .ok (.iastore, 1) := by decide +kernel
theorem dX12_init_179 : decode cX12_init 179 = .ok (.dup, 1) := by decide +kernel
theorem dX12_init_180 : decode cX12_init 180 = .ok (.bipush 34, 2) := by decide +kernel
theorem dX12_init_182 : decode cX12_init 182 = .ok (.iconst 3, 1) := by decide +kernel
theorem dX12_init_183 : decode cX12_init 183 = .ok (.iastore, 1) := by decide +kernel
theorem dX12_init_184 : decode cX12_init 184 = .ok (.dup, 1) := by decide +kernel
theorem dX12_init_185 : decode cX12_init 185 = .ok (.bipush 35, 2) := by decide +kernel
theorem dX12_init_187 : decode cX12_init 187 = .ok (.iconst 3, 1) := by decide +kernel
theorem dX12_init_188 : decode cX12_init 188 = .ok (.iastore, 1) := by decide +kernel
theorem dX12_init_189 : decode cX12_init 189 = .ok (.dup, 1) := by decide +kernel
theorem dX12_init_190 : decode cX12_init 190 = .ok (.bipush 36, 2) := by decide +kernel
theorem dX12_init_192 : decode cX12_init 192 = .ok (.iconst 3, 1) := by decide +kernel
theorem dX12_init_193 : decode cX12_init 193 = .ok (.iastore, 1) := by decide +kernel
theorem dX12_init_194 : decode cX12_init 194 = .ok (.dup, 1) := by decide +kernel
theorem dX12_init_195 : decode cX12_init 195 = .ok (.bipush 37, 2) := by decide +kernel
theorem dX12_init_197 : decode cX12_init 197 = .ok (.iconst 3, 1) := by decide +kernel
theorem dX12_init_198 : decode cX12_init 198 = .ok (.iastore, 1) := by decide +kernel
theorem dX12_init_199 : decode cX12_init 199 = .ok (.dup, 1) := by decide +kernel
theorem dX12_init_200 : decode cX12_init 200 = .ok (.bipush 38, 2) := by decide +kernel
theorem dX12_init_202 : decode cX12_init 202 = .ok (.iconst 3, 1) := by decide +kernel
theorem dX12_init_203 : decode cX12_init 203 = .ok (.iastore, 1) := by decide +kernel
theorem dX12_init_204 : decode cX12_init 204 = .ok (.dup, 1) := by decide +kernel
theorem dX12_init_205 : decode cX12_init 205 = .ok (.bipush 39, 2) := by decide +kernel
theorem dX12_init_207 : decode cX12_init 207 = .ok (.iconst 3, 1) := by decide +kernel
theorem dX12_init_208 : decode cX12_init 208 = .ok (.iastore, 1) := by decide +kernel
theorem dX12_init_209 : decode cX12_init 209 = .ok (.dup, 1) := by decide +kernel
theorem dX12_init_210 : decode cX12_init 210 = .ok (.bipush 40, 2) := by decide +kernel
theorem dX12_init_212 : decode cX12_init 212 = .ok (.iconst 3, 1) := by decide +kernel
theorem dX12_init_213 : decode cX12_init 213 = .ok (.iastore, 1) := by decide +kernel
theorem dX12_init_214 : decode cX12_init 214 = .ok (.dup, 1) := by decide +kernel
theorem dX12_init_215 : decode cX12_init 215 = .ok (.bipush 41, 2) := by decide +kernel
theorem dX12_init_217 : decode cX12_init 217 = .ok (.iconst 3, 1) := by decide +kernel
theorem dX12_init_218 : decode cX12_init 218 = .ok (.iastore, 1) := by decide +kernel
theorem dX12_init_219 : decode cX12_init 219 = .ok (.dup, 1) := by decide +kernel
theorem dX12_init_220 : decode cX12_init 220 = .ok (.bipush 42, 2) := by decide +kernel
theorem dX12_init_222 : decode cX12_init 222 = .ok (.iconst 3, 1) := by decide +kernel
theorem dX12_init_223 : decode cX12_init 223 = .ok (.iastore, 1) := by decide +kernel
theorem dX12_init_224 : decode cX12_init 224 = .ok (.dup, 1) := by decide +kernel
theorem dX12_init_225 : decode cX12_init 225 = .ok (.bipush 43, 2) := by decide +kernel
theorem dX12_init_227 : decode cX12_init 227 = .ok (.iconst 3, 1) := by decide +kernel
theorem dX12_init_228 : decode cX12_init 228 = .ok (.iastore, 1) := by decide +kernel
theorem dX12_init_229 : decode cX12_init 229 = .ok (.dup, 1) := by decide +kernel
theorem dX12_init_230 : decode cX12_init 230 = .ok (.bipush 44, 2) := by decide +kernel
theorem dX12_init_232 : decode cX12_init 232 = .ok (.iconst 3, 1) := by decide +kernel
theorem dX12_init_233 : decode cX12_init 233 = .ok (.iastore, 1) := by decide +kernel
theorem dX12_init_234 : decode cX12_init 234 = .ok (.dup, 1) := by decide +kernel
theorem dX12_init_235 : decode cX12_init 235 = .ok (.bipush 45, 2) := by decide +kernel
theorem dX12_init_237 : decode cX12_init 237 = .ok (.iconst 3, 1) := by decide +kernel
theorem dX12_init_238 : decode cX12_init 238 = .ok (.iastore, 1) := by decide +kernel
theorem dX12_init_239 : decode cX12_init 239 = .ok (.dup, 1) := by decide +kernel
theorem dX12_init_240 : decode cX12_init 240 = .ok (.bipush 46, 2) := by decide +kernel
theorem dX12_init_242 : decode cX12_init 242 = .ok (.iconst 3, 1) := by decide +kernel
theorem dX12_init_243 : decode cX12_init 243 = .ok (.iastore, 1) := by decide +kernel
theorem dX12_init_244 : decode cX12_init 244 = .ok (.dup, 1) := by decide +kernel
theorem dX12_init_245 : decode cX12_init 245 = .ok (.bipush 47, 2) := by decide +kernel
theorem dX12_init_247 : decode cX12_init 247 = .ok (.iconst 3, 1) := by decide +kernel
theorem dX12_init_248 : decode cX12_init 248 = .ok (.iastore, 1) := by decide +kernel
theorem dX12_init_249 : decode cX12_init 249 = .ok (.putfield 13, 3) := by decide +kernel
theorem dX12_init_252 : decode cX12_init 252 = .ok (.aload_n 0, 1) := by decide +kernel
theorem dX12_init_253 : decode cX12_init 253 = .ok (.bipush 48, 2) := by decide +kernel
theorem dX12_init_255 : decode cX12_init 255 = .ok (.newarray .int, 2) := by decide +kernel
theorem dX12_init_257 : decode cX12_init 257 = .ok (.putfield 17, 3) := by decide +kernel
theorem dX12_init_260 : decode cX12_init 260 = .ok (.aload_n 0, 1) := by decide +kernel
theorem dX12_init_261 : decode cX12_init 261 = .ok (.bipush 48, 2) := by decide +kernel
theorem dX12_init_263 : decode cX12_init 263 = .ok (.newarray .int, 2) := by decide +kernel
theorem dX12_init_265 : decode cX12_init 265 = .ok (.putfield 20, 3) := by decide +kernel
theorem dX12_init_268 : decode cX12_init 268 = .ok (.aload_n 0, 1) := by decide +kernel
theorem dX12_init_269 : decode cX12_init 269 = .ok (.iconst 4, 1) := by decide +kernel
theorem dX12_init_270 : decode cX12_init 270 = .ok (.newarray .int, 2) := by decide +kernel
theorem dX12_init_272 : decode cX12_init 272 = .ok (.putfield 23, 3) := by decide +kernel
theorem dX12_init_275 : decode cX12_init 275 = .ok (.aload_n 0, 1) := by decide +kernel
theorem dX12_init_276 : decode cX12_init 276 = .ok (.bipush 10, 2) := by decide +kernel
theorem dX12_init_278 : decode cX12_init 278 = .ok (.newarray .int, 2) := by decide +kernel
theorem dX12_init_280 : decode cX12_init 280 = .ok (.putfield 26, 3) := by decide +kernel
theorem dX12_init_283 : decode cX12_init 283 = .ok (.aload_n 0, 1) := by decide +kernel
theorem dX12_init_284 : decode cX12_init 284 = .ok (.bipush 10, 2) := by decide +kernel
theorem dX12_init_286 : decode cX12_init 286 = .ok (.newarray .int, 2) := by decide +kernel
theorem dX12_init_288 : decode cX12_init 288 = .ok (.putfield 29, 3) := by decide +kernel
theorem dX12_init_291 : decode cX12_init 291 = .ok (.aload_n 0, 1) := by decide +kernel
theorem dX12_init_292 : decode cX12_init 292 = .ok (.bipush 10, 2) := by decide +kernel
theorem dX12_init_294 : decode cX12_init 294 = .ok (.newarray .int, 2) := by decide +kernel
theorem dX12_init_296 : decode cX12_init 296 = .ok (.putfield 32, 3) := by decide +kernel
theorem dX12_init_299 : decode cX12_init 299 = .ok (.aload_n 0, 1) := by decide +kernel
theorem dX12_init_300 : decode cX12_init 300 = .ok (.bipush 10, 2) := by decide +kernel
theorem dX12_init_302 : decode cX12_init 302 = .ok (.newarray .int, 2) := by decide +kernel
theorem dX12_init_304 : decode cX12_init 304 = .ok (.putfield 35, 3) := by decide +kernel
theorem dX12_init_307 : decode cX12_init 307 = .ok (.aload_n 0, 1) := by decide +kernel
theorem dX12_init_308 : decode cX12_init 308 = .ok (.bipush 10, 2) := by decide +kernel
theorem dX12_init_310 : decode cX12_init 310 = .ok (.newarray .int, 2) := by decide +kernel
theorem dX12_init_312 : decode cX12_init 312 = .ok (.putfield 38, 3) := by decide +kernel
theorem dX12_init_315 : decode cX12_init 315 = .ok (.aload_n 0, 1) := by decide +kernel
theorem dX12_init_316 : decode cX12_init 316 = .ok (.sipush 160, 3) := by decide +kernel
theorem dX12_init_319 : decode cX12_init 319 = .ok (.newarray .byte, 2) := by decide +kernel
theorem dX12_init_321 : decode cX12_init 321 = .ok (.putfield 41, 3) := by decide +kernel
theorem dX12_init_324 : decode cX12_init 324 = .ok (.aload_n 0, 1) := by decide +kernel
theorem dX12_init_325 : decode cX12_init 325 = .ok (.iconst 1, 1) := by decide +kernel
theorem dX12_init_326 : decode cX12_init 326 = .ok (.putfield 45, 3) := by decide +kernel
theorem dX12_init_329 : decode cX12_init 329 = .ok (.aload_n 0, 1) := by decide +kernel
theorem dX12_init_330 : decode cX12_init 330 = .ok (.sipush 1190, 3) := by decide +kernel
theorem dX12_init_333 : decode cX12_init 333 = .ok (.newarray .int, 2) := by decide +kernel
theorem dX12_init_335 : decode cX12_init 335 = .ok (.putfield 48, 3) := by decide +kernel
theorem dX12_init_338 : decode cX12_init 338 = .ok (.aload_n 0, 1) := by decide +kernel
theorem dX12_init_339 : decode cX12_init 339 = .ok (.sipush 1190, 3) := by decide +kernel
theorem dX12_init_342 : decode cX12_init 342 = .ok (.newarray .int, 2) := by decide +kernel
theorem dX12_init_344 : decode cX12_init 344 = .ok (.putfield 51, 3) := by decide +kernel
theorem dX12_init_347 : decode cX12_init 347 = .ok (.aload_n 0, 1) := by decide +kernel
theorem dX12_init_348 : decode cX12_init 348 = .ok (.bipush 21, 2) := by decide +kernel
theorem dX12_init_350 : decode cX12_init 350 = .ok (.newarray .int, 2) := by decide +kernel
theorem dX12_init_352 : decode cX12_init 352 = .ok (.putfield 54, 3) := by decide +kernel
theorem dX12_init_355 : decode cX12_init 355 = .ok (.aload_n 0, 1) := by decide +kernel
theorem dX12_init_356 : decode cX12_init 356 = .ok (.sipush 170, 3) := by decide +kernel
theorem dX12_init_359 : decode cX12_init 359 = .ok (.newarray .int, 2) := by decide +kernel
theorem dX12_init_361 : decode cX12_init 361 = .ok (.putfield 57, 3) := by decide +kernel
theorem dX12_init_364 : decode cX12_init 364 = .ok (.aload_n 0, 1) := by decide +kernel
theorem dX12_init_365 : decode cX12_init 365 = .ok (.bipush 6, 2) := by decide +kernel
theorem dX12_init_367 : decode cX12_init 367 = .ok (.newarray .int, 2) := by decide +kernel
theorem dX12_init_369 : decode cX12_init 369 = .ok (.putfield 60, 3) := by decide +kernel
theorem dX12_init_372 : decode cX12_init 372 = .ok (.aload_n 0, 1) := by decide +kernel
theorem dX12_init_373 : decode cX12_init 373 = .ok (.bipush 61, 2) := by decide +kernel
theorem dX12_init_375 : decode cX12_init 375 = .ok (.newarray .int, 2) := by decide +kernel
theorem dX12_init_377 : decode cX12_init 377 = .ok (.dup, 1) := by decide +kernel
theorem dX12_init_378 : decode cX12_init 378 = .ok (.iconst 0, 1) := by decide +kernel
theorem dX12_init_379 : decode cX12_init 379 = .ok (.bipush 104, 2) := by decide +kernel
theorem dX12_init_381 : decode cX12_init 381 = .ok (.iastore, 1) := by decide +kernel
theorem dX12_init_382 : decode cX12_init 382 = .ok (.dup, 1) := by decide +kernel
theorem dX12_init_383 : decode cX12_init 383 = .ok (.iconst 1, 1) := by decide +kernel
theorem dX12_init_384 : decode cX12_init 384 = .ok (.bipush 101, 2) := by decide +kernel
theorem dX12_init_386 : decode cX12_init 386 = .ok (.iastore, 1) := by decide +kernel
theorem dX12_init_387 : decode cX12_init 387 = .ok (.dup, 1) := by decide +kernel
theorem dX12_init_388 : decode cX12_init 388 = .ok (.iconst 2, 1) := by decide +kernel
theorem dX12_init_389 : decode cX12_init 389 = .ok (.bipush 108, 2) := by decide +kernel
theorem dX12_init_391 : decode cX12_init 391 = .ok (.iastore, 1) := by decide +kernel
theorem dX12_init_392 : decode cX12_init 392 = .ok (.dup, 1) := by decide +kernel
theorem dX12_init_393 : decode cX12_init 393 = .ok (.iconst 3, 1) := by decide +kernel
theorem dX12_init_394 : decode cX12_init 394 = .ok (.bipush 100, 2) := by decide +kernel
theorem dX12_init_396 : decode cX12_init 396 = .ok (.iastore, 1) := by decide +kernel
theorem dX12_init_397 : decode cX12_init 397 = .ok (.dup, 1) := by decide +kernel
theorem dX12_init_398 : decode cX12_init 398 = .ok (.iconst 4, 1) := by decide +kernel
theorem dX12_init_399 : decode cX12_init 399 = .ok (.bipush 32, 2) := by decide +kernel
theorem dX12_init_401 : decode cX12_init 401 = .ok (.iastore, 1) := by decide +kernel
theorem dX12_init_402 : decode cX12_init 402 = .ok (.dup, 1) := by decide +kernel
theorem dX12_init_403 : decode cX12_init 403 = .ok (.iconst 5, 1) := by decide +kernel
theorem dX12_init_404 : decode cX12_init 404 = .ok (.bipush 108, 2) := by decide +kernel
theorem dX12_init_406 : decode cX12_init 406 = .ok (.iastore, 1) := by decide +kernel
theorem dX12_init_407 : decode cX12_init 407 = .ok (.dup, 1) := by decide +kernel
theorem dX12_init_408 : decode cX12_init 408 = .ok (.bipush 6, 2) := by decide +kernel
theorem dX12_init_410 : decode cX12_init 410 = .ok (.bipush 111, 2) := by decide +kernel
theorem dX12_init_412 : decode cX12_init 412 = .ok (.iastore, 1) := by decide +kernel
theorem dX12_init_413 : decode cX12_init 413 = .ok (.dup, 1) := by decide +kernel
theorem dX12_init_414 : decode cX12_init 414 = .ok (.bipush 7, 2) := by decide +kernel
theorem dX12_init_416 : decode cX12_init 416 = .ok (.bipush 117, 2) := by decide +kernel
theorem dX12_init_418 : decode cX12_init 418 = .ok (.iastore, 1) := by decide +kernel
theorem dX12_init_419 : decode cX12_init 419 = .ok (.dup, 1) := by decide +kernel
theorem dX12_init_420 : decode cX12_init 420 = .ok (.bipush 8, 2) := by decide +kernel
theorem dX12_init_422 : decode cX12_init 422 = .ok (.bipush 100, 2) := by decide +kernel
theorem dX12_init_424 : decode cX12_init 424 = .ok (.iastore, 1) := by decide +kernel
theorem dX12_init_425 : decode cX12_init 425 = .ok (.dup, 1) := by decide +kernel
theorem dX12_init_426 : decode cX12_init 426 = .ok (.bipush 9, 2) := by decide +kernel
theorem dX12_init_428 : decode cX12_init 428 = .ok (.bipush 32, 2) := by decide +kernel
theorem dX12_init_430 : decode cX12_init 430 = .ok (.iastore, 1) := by decide +kernel
theorem dX12_init_431 : decode cX12_init 431 = .ok (.dup, 1) := by decide +kernel
theorem dX12_init_432 : decode cX12_init 432 = .ok (.bipush 10, 2) := by decide +kernel
theorem dX12_init_434 : decode cX12_init 434 = .ok (.bipush 115, 2) := by decide +kernel
theorem dX12_init_436 : decode cX12_init 436 = .ok (.iastore, 1) := by decide +kernel
theorem dX12_init_437 : decode cX12_init 437 = .ok (.dup, 1) := by decide +kernel
theorem dX12_init_438 : decode cX12_init 438 = .ok (.bipush 11, 2) := by decide +kernel
theorem dX12_init_440 : decode cX12_init 440 = .ok (.bipush 116, 2) := by decide +kernel
theorem dX12_init_442 : decode cX12_init 442 = .ok (.iastore, 1) := by decide +kernel
theorem dX12_init_443 : decode cX12_init 443 = .ok (.dup, 1) := by decide +kernel
theorem dX12_init_444 : decode cX12_init 444 = .ok (.bipush 12, 2) := by decide +kernel
theorem dX12_init_446 : decode cX12_init 446 = .ok (.bipush 101, 2) := by decide +kernel
theorem dX12_init_448 : decode cX12_init 448 = .ok (.iastore, 1) := by decide +kernel
theorem dX12_init_449 : decode cX12_init 449 = .ok (.dup, 1) := by decide +kernel
theorem dX12_init_450 : decode cX12_init 450 = .ok (.bipush 13, 2) := by decide +kernel
theorem dX12_init_452 : decode cX12_init 452 = .ok (.bipush 112, 2) := by decide +kernel
theorem dX12_init_454 : decode cX12_init 454 = .ok (.iastore, 1) := by decide +kernel
theorem dX12_init_455 : decode cX12_init 455 = .ok (.dup, 1) := by decide +kernel
theorem dX12_init_456 : decode cX12_init 456 = .ok (.bipush 14, 2) := by decide +kernel
theorem dX12_init_458 : decode cX12_init 458 = .ok (.bipush 32, 2) := by decide +kernel
theorem dX12_init_460 : decode cX12_init 460 = .ok (.iastore, 1) := by decide +kernel
theorem dX12_init_461 : decode cX12_init 461 = .ok (.dup, 1) := by decide +kernel
theorem dX12_init_462 : decode cX12_init 462 = .ok (.bipush 15, 2) := by decide +kernel
theorem dX12_init_464 : decode cX12_init 464 = .ok (.bipush 115, 2) := by decide +kernel
theorem dX12_init_466 : decode cX12_init 466 = .ok (.iastore, 1) := by decide +kernel
theorem dX12_init_467 : decode cX12_init 467 = .ok (.dup, 1) := by decide +kernel
theorem dX12_init_468 : decode cX12_init 468 = .ok (.bipush 16, 2) := by decide +kernel
theorem dX12_init_470 : decode cX12_init 470 = .ok (.bipush 105, 2) := by decide +kernel
theorem dX12_init_472 : decode cX12_init 472 = .ok (.iastore, 1) := by decide +kernel
theorem dX12_init_473 : decode cX12_init 473 = .ok (.dup, 1) := by decide +kernel
theorem dX12_init_474 : decode cX12_init 474 = .ok (.bipush 17, 2) := by decide +kernel
theorem dX12_init_476 : decode cX12_init 476 = .ok (.bipush 110, 2) := by decide +kernel
theorem dX12_init_478 : decode cX12_init 478 = .ok (.iastore, 1) := by decide +kernel
theorem dX12_init_479 : decode cX12_init 479 = .ok (.dup, 1) := by decide +kernel
theorem dX12_init_480 : decode cX12_init 480 = .ok (.bipush 18, 2) := by decide +kernel
theorem dX12_init_482 : decode cX12_init 482 = .ok (.bipush 103, 2) := by decide +kernel
theorem dX12_init_484 : decode cX12_init 484 = .ok (.iastore, 1) := by decide +kernel
theorem dX12_init_485 : decode cX12_init 485 = .ok (.dup, 1) := by decide +kernel
theorem dX12_init_486 : decode cX12_init 486 = .ok (.bipush 19, 2) := by decide +kernel
theorem dX12_init_488 : decode cX12_init 488 = .ok (.bipush 105, 2) := by decide +kernel
theorem dX12_init_490 : decode cX12_init 490 = .ok (.iastore, 1) := by decide +kernel
theorem dX12_init_491 : decode cX12_init 491 = .ok (.dup, 1) := by decide +kernel
theorem dX12_init_492 : decode cX12_init 492 = .ok (.bipush 20, 2) := by decide +kernel
theorem dX12_init_494 : decode cX12_init 494 = .ok (.bipush 110, 2) := by decide +kernel
theorem dX12_init_496 : decode cX12_init 496 = .ok (.iastore, 1) := by decide +kernel
theorem dX12_init_497 : decode cX12_init 497 = .ok (.dup, 1) := by decide +kernel
theorem dX12_init_498 : decode cX12_init 498 = .ok (.bipush 21, 2) := by decide +kernel
theorem dX12_init_500 : decode cX12_init 500 = .ok (.bipush 103, 2) := by decide +kernel
theorem dX12_init_502 : decode cX12_init 502 = .ok (.iastore, 1) := by decide +kernel
theorem dX12_init_503 : decode cX12_init 503 = .ok (.dup, 1) := by decide +kernel
theorem dX12_init_504 : decode cX12_init 504 = .ok (.bipush 22, 2) := by decide +kernel
theorem dX12_init_506 : decode cX12_init 506 = .ok (.bipush 32, 2) := by decide +kernel
theorem dX12_init_508 : decode cX12_init 508 = .ok (.iastore, 1) := by decide +kernel
theorem dX12_init_509 : decode cX12_init 509 = .ok (.dup, 1) := by decide +kernel
theorem dX12_init_510 : decode cX12_init 510 = .ok (.bipush 23, 2) := by decide +kernel
theorem dX12_init_512 : decode cX12_init 512 = .ok (.bipush 98, 2) := by decide +kernel
theorem dX12_init_514 : decode cX12_init 514 = .ok (.iastore, 1) := by decide +kernel
theorem dX12_init_515 : decode cX12_init 515 = .ok (.dup, 1) := by decide +kernel
theorem dX12_init_516 : decode cX12_init 516 = .ok (.bipush 24, 2) := by decide +kernel
theorem dX12_init_518 : decode cX12_init 518 = .ok (.bipush 101, 2) := by decide +kernel
theorem dX12_init_520 : decode cX12_init 520 = .ok (.iastore, 1) := by decide +kernel
theorem dX12_init_521 : decode cX12_init 521 = .ok (.dup, 1) := by decide +kernel
theorem dX12_init_522 : decode cX12_init 522 = .ok (.bipush 25, 2) := by decide +kernel
theorem dX12_init_524 : decode cX12_init 524 = .ok (.bipush 115, 2) := by decide +kernel
theorem dX12_init_526 : decode cX12_init 526 = .ok (.iastore, 1) := by decide +kernel
theorem dX12_init_527 : decode cX12_init 527 = .ok (.dup, 1) := by decide +kernel
theorem dX12_init_528 : decode cX12_init 528 = .ok (.bipush 26, 2) := by decide +kernel
theorem dX12_init_530 : decode cX12_init 530 = .ok (.bipush 105, 2) := by decide +kernel
theorem dX12_init_532 : decode cX12_init 532 = .ok (.iastore, 1) := by decide +kernel
theorem dX12_init_533 : decode cX12_init 533 = .ok (.dup, 1) := by decide +kernel
theorem dX12_init_534 : decode cX12_init 534 = .ok (.bipush 27, 2) := by decide +kernel
theorem dX12_init_536 : decode cX12_init 536 = .ok (.bipush 100, 2) := by decide +kernel
theorem dX12_init_538 : decode cX12_init 538 = .ok (.iastore, 1) := by decide +kernel
theorem dX12_init_539 : decode cX12_init 539 = .ok (.dup, 1) := by decide +kernel
theorem dX12_init_540 : decode cX12_init 540 = .ok (.bipush 28, 2) := by decide +kernel
theorem dX12_init_542 : decode cX12_init 542 = .ok (.bipush 101, 2) := by decide +kernel
theorem dX12_init_544 : decode cX12_init 544 = .ok (.iastore, 1) := by decide +kernel
theorem dX12_init_545 : decode cX12_init 545 = .ok (.dup, 1) := by decide +kernel
theorem dX12_init_546 : decode cX12_init 546 = .ok (.bipush 29, 2) := by decide +kernel
theorem dX12_init_548 : decode cX12_init 548 = .ok (.bipush 32, 2) := by decide +kernel
theorem dX12_init_550 : decode cX12_init 550 = .ok (.iastore, 1) := by decide +kernel
theorem dX12_init_551 : decode cX12_init 551 = .ok (.dup, 1) := by decide +kernel
theorem dX12_init_552 : decode cX12_init 552 = .ok (.bipush 30, 2) := by decide +kernel
theorem dX12_init_554 : decode cX12_init 554 = .ok (.bipush 116, 2) := by decide +kernel
theorem dX12_init_556 : decode cX12_init 556 = .ok (.iastore, 1) := by decide +kernel
theorem dX12_init_557 : decode cX12_init 557 = .ok (.dup, 1) := by decide +kernel
theorem dX12_init_558 : decode cX12_init 558 = .ok (.bipush 31, 2) := by decide +kernel
theorem dX12_init_560 : decode cX12_init 560 = .ok (.bipush 105, 2) := by decide +kernel
theorem dX12_init_562 : decode cX12_init 562 = .ok (.iastore, 1) := by decide +kernel
theorem dX12_init_563 : decode cX12_init 563 = .ok (.dup, 1) := by decide +kernel
theorem dX12_init_564 : decode cX12_init 564 = .ok (.bipush 32, 2) := by decide +kernel
theorem dX12_init_566 : decode cX12_init 566 = .ok (.bipush 114, 2) := by decide +kernel
theorem dX12_init_568 : decode cX12_init 568 = .ok (.iastore, 1) := by decide +kernel
theorem dX12_init_569 : decode cX12_init 569 = .ok (.dup, 1) := by decide +kernel
theorem dX12_init_570 : decode cX12_init 570 = .ok (.bipush 33, 2) := by decide +kernel
theorem dX12_init_572 : decode cX12_init 572 = .ok (.bipush 101, 2) := by decide +kernel
theorem dX12_init_574 : decode cX12_init 574 = .ok (.iastore, 1) := by decide +kernel
theorem dX12_init_575 : decode cX12_init 575 = .ok (.dup, 1) := by decide +kernel
theorem dX12_init_576 : decode cX12_init 576 = .ok (.bipush 34, 2) := by decide +kernel
theorem dX12_init_578 : decode cX12_init 578 = .ok (.bipush 100, 2) := by decide +kernel
theorem dX12_init_580 : decode cX12_init 580 = .ok (.iastore, 1) := by decide +kernel
theorem dX12_init_581 : decode cX12_init 581 = .ok (.dup, 1) := by decide +kernel
theorem dX12_init_582 : decode cX12_init 582 = .ok (.bipush 35, 2) := by decide +kernel
theorem dX12_init_584 : decode cX12_init 584 = .ok (.bipush 32, 2) := by decide +kernel
theorem dX12_init_586 : decode cX12_init 586 = .ok (.iastore, 1) := by decide +kernel
theorem dX12_init_587 : decode cX12_init 587 = .ok (.dup, 1) := by decide +kernel
theorem dX12_init_588 : decode cX12_init 588 = .ok (.bipush 36, 2) := by decide +kernel
theorem dX12_init_590 : decode cX12_init 590 = .ok (.bipush 109, 2) := by decide +kernel
theorem dX12_init_592 : decode cX12_init 592 = .ok (.iastore, 1) := by decide +kernel
theorem dX12_init_593 : decode cX12_init 593 = .ok (.dup, 1) := by decide +kernel
theorem dX12_init_594 : decode cX12_init 594 = .ok (.bipush 37, 2) := by decide +kernel
theorem dX12_init_596 : decode cX12_init 596 = .ok (.bipush 117, 2) := by decide +kernel
theorem dX12_init_598 : decode cX12_init 598 = .ok (.iastore, 1) := by decide +kernel
theorem dX12_init_599 : decode cX12_init 599 = .ok (.dup, 1) := by decide +kernel
theorem dX12_init_600 : decode cX12_init 600 = .ok (.bipush 38, 2) := by decide +kernel
theorem dX12_init_602 : decode cX12_init 602 = .ok (.bipush 115, 2) := by decide +kernel
theorem dX12_init_604 : decode cX12_init 604 = .ok (.iastore, 1) := by decide +kernel
theorem dX12_init_605 : decode cX12_init 605 = .ok (.dup, 1) := by decide +kernel
theorem dX12_init_606 : decode cX12_init 606 = .ok (.bipush 39, 2) := by decide +kernel
theorem dX12_init_608 : decode cX12_init 608 = .ok (.bipush 116, 2) := by decide +kernel
theorem dX12_init_610 : decode cX12_init 610 = .ok (.iastore, 1) := by decide +kernel
theorem dX12_init_611 : decode cX12_init 611 = .ok (.dup, 1) := by decide +kernel
theorem dX12_init_612 : decode cX12_init 612 = .ok (.bipush 40, 2) := by decide +kernel
theorem dX12_init_614 : decode cX12_init 614 = .ok (.bipush 32, 2) := by decide +kernel
theorem dX12_init_616 : decode cX12_init 616 = .ok (.iastore, 1) := by decide +kernel
theorem dX12_init_617 : decode cX12_init 617 = .ok (.dup, 1) := by decide +kernel
theorem dX12_init_618 : decode cX12_init 618 = .ok (.bipush 41, 2) := by decide +kernel
theorem dX12_init_620 : decode cX12_init 620 = .ok (.bipush 109, 2) := by decide +kernel
theorem dX12_init_622 : decode cX12_init 622 = .ok (.iastore, 1) := by decide +kernel
theorem dX12_init_623 : decode cX12_init 623 = .ok (.dup, 1) := by decide +kernel
theorem dX12_init_624 : decode cX12_init 624 = .ok (.bipush 42, 2) := by decide +kernel
theorem dX12_init_626 : decode cX12_init 626 = .ok (.bipush 97, 2) := by decide +kernel
theorem dX12_init_628 : decode cX12_init 628 = .ok (.iastore, 1) := by decide +kernel
theorem dX12_init_629 : decode cX12_init 629 = .ok (.dup, 1) := by decide +kernel
theorem dX12_init_630 : decode cX12_init 630 = .ok (.bipush 43, 2) := by decide +kernel
theorem dX12_init_632 : decode cX12_init 632 = .ok (.bipush 121, 2) := by decide +kernel
theorem dX12_init_634 : decode cX12_init 634 = .ok (.iastore, 1) := by decide +kernel
theorem dX12_init_635 : decode cX12_init 635 = .ok (.dup, 1) := by decide +kernel
theorem dX12_init_636 : decode cX12_init 636 = .ok (.bipush 44, 2) := by decide +kernel
theorem dX12_init_638 : decode cX12_init 638 = .ok (.bipush 32, 2) := by decide +kernel
theorem dX12_init_640 : decode cX12_init 640 = .ok (.iastore, 1) := by decide +kernel
theorem dX12_init_641 : decode cX12_init 641 = .ok (.dup, 1) := by decide +kernel
theorem dX12_init_642 : decode cX12_init 642 = .ok (.bipush 45, 2) := by decide +kernel
theorem dX12_init_644 : decode cX12_init 644 = .ok (.bipush 116, 2) := by decide +kernel
theorem dX12_init_646 : decode cX12_init 646 = .ok (.iastore, 1) := by decide +kernel
theorem dX12_init_647 : decode cX12_init 647 = .ok (.dup, 1) := by decide +kernel
theorem dX12_init_648 : decode cX12_init 648 = .ok (.bipush 46, 2) := by decide +kernel
theorem dX12_init_650 : decode cX12_init 650 = .ok (.bipush 104, 2) := by decide +kernel
theorem dX12_init_652 : decode cX12_init 652 = .ok (.iastore, 1) := by decide +kernel
theorem dX12_init_653 : decode cX12_init 653 = .ok (.dup, 1) := by decide +kernel
theorem dX12_init_654 : decode cX12_init 654 = .ok (.bipush 47, 2) := by decide +kernel
theorem dX12_init_656 : decode cX12_init 656 = .ok (.bipush 105, 2) := by decide +kernel
theorem dX12_init_658 : decode cX12_init 658 = .ok (.iastore, 1) := by decide +kernel
theorem dX12_init_659 : decode cX12_init 659 = .ok (.dup, 1) := by decide +kernel
theorem dX12_init_660 : decode cX12_init 660 = .ok (.bipush 48, 2) := by decide +kernel
theorem dX12_init_662 : decode cX12_init 662 = .ok (.bipush 110, 2) := by decide +kernel
theorem dX12_init_664 : decode cX12_init 664 = .ok (.iastore, 1) := by decide +kernel
theorem dX12_init_665 : decode cX12_init 665 = .ok (.dup, 1) := by decide +kernel
theorem dX12_init_666 : decode cX12_init 666 = .ok (.bipush 49, 2) := by decide +kernel
theorem dX12_init_668 : decode cX12_init 668 = .ok (.bipush 32, 2) := by decide +kernel
theorem dX12_init_670 : decode cX12_init 670 = .ok (.iastore, 1) := by decide +kernel
theorem dX12_init_671 : decode cX12_init 671 = .ok (.dup, 1) := by decide +kernel
theorem dX12_init_672 : decode cX12_init 672 = .ok (.bipush 50, 2) := by decide +kernel
theorem dX12_init_674 : decode cX12_init 674 = .ok (.bipush 111, 2) := by decide +kernel
theorem dX12_init_676 : decode cX12_init 676 = .ok (.iastore, 1) := by decide +kernel
theorem dX12_init_677 : decode cX12_init 677 = .ok (.dup, 1) := by decide +kernel
theorem dX12_init_678 : decode cX12_init 678 = .ok (.bipush 51, 2) := by decide +kernel
theorem dX12_init_680 : decode cX12_init 680 = .ok (.bipush 114, 2) := by decide +kernel
theorem dX12_init_682 : decode cX12_init 682 = .ok (.iastore, 1) := by decide +kernel
theorem dX12_init_683 : decode cX12_init 683 = .ok (.dup, 1) := by decide +kernel
theorem dX12_init_684 : decode cX12_init 684 = .ok (.bipush 52, 2) := by decide +kernel
theorem dX12_init_686 : decode cX12_init 686 = .ok (.bipush 32, 2) := by decide +kernel
theorem dX12_init_688 : decode cX12_init 688 = .ok (.iastore, 1) := by decide +kernel
theorem dX12_init_689 : decode cX12_init 689 = .ok (.dup, 1) := by decide +kernel
theorem dX12_init_690 : decode cX12_init 690 = .ok (.bipush 53, 2) := by decide +kernel
theorem dX12_init_692 : decode cX12_init 692 = .ok (.bipush 97, 2) := by decide +kernel
theorem dX12_init_694 : decode cX12_init 694 = .ok (.iastore, 1) := by decide +kernel
theorem dX12_init_695 : decode cX12_init 695 = .ok (.dup, 1) := by decide +kernel
theorem dX12_init_696 : decode cX12_init 696 = .ok (.bipush 54, 2) := by decide +kernel
theorem dX12_init_698 : decode cX12_init 698 = .ok (.bipush 110, 2) := by decide +kernel
theorem dX12_init_700 : decode cX12_init 700 = .ok (.iastore, 1) := by decide +kernel
theorem dX12_init_701 : decode cX12_init 701 = .ok (.dup, 1) := by decide +kernel
theorem dX12_init_702 : decode cX12_init 702 = .ok (.bipush 55, 2) := by decide +kernel
theorem dX12_init_704 : decode cX12_init 704 = .ok (.bipush 100, 2) := by decide +kernel
theorem dX12_init_706 : decode cX12_init 706 = .ok (.iastore, 1) := by decide +kernel
theorem dX12_init_707 : decode cX12_init 707 = .ok (.dup, 1) := by decide +kernel
theorem dX12_init_708 : decode cX12_init 708 = .ok (.bipush 56, 2) := by decide +kernel
theorem dX12_init_710 : decode cX12_init 710 = .ok (.bipush 32, 2) := by decide +kernel
theorem dX12_init_712 : decode cX12_init 712 = .ok (.iastore, 1) := by decide +kernel
theorem dX12_init_713 : decode cX12_init 713 = .ok (.dup, 1) := by decide +kernel
theorem dX12_init_714 : decode cX12_init 714 = .ok (.bipush 57, 2) := by decide +kernel
theorem dX12_init_716 : decode cX12_init 716 = .ok (.bipush 110, 2) := by decide +kernel
theorem dX12_init_718 : decode cX12_init 718 = .ok (.iastore, 1) := by decide +kernel
theorem dX12_init_719 : decode cX12_init 719 = .ok (.dup, 1) := by decide +kernel
theorem dX12_init_720 : decode cX12_init 720 = .ok (.bipush 58, 2) := by decide +kernel
theorem dX12_init_722 : decode cX12_init 722 = .ok (.bipush 111, 2) := by decide +kernel
theorem dX12_init_724 : decode cX12_init 724 = .ok (.iastore, 1) := by decide +kernel
theorem dX12_init_725 : decode cX12_init 725 = .ok (.dup, 1) := by decide +kernel
theorem dX12_init_726 : decode cX12_init 726 = .ok (.bipush 59, 2) := by decide +kernel
theorem dX12_init_728 : decode cX12_init 728 = .ok (.bipush 116, 2) := by decide +kernel
theorem dX12_init_730 : decode cX12_init 730 = .ok (.iastore, 1) := by decide +kernel
theorem dX12_init_731 : decode cX12_init 731 = .ok (.dup, 1) := by decide +kernel
theorem dX12_init_732 : decode cX12_init 732 = .ok (.bipush 60, 2) := by decide +kernel
theorem dX12_init_734 : decode cX12_init 734 = .ok (.bipush 32, 2) := by decide +kernel
theorem dX12_init_736 : decode cX12_init 736 = .ok (.iastore, 1) := by decide +kernel
theorem dX12_init_737 : decode cX12_init 737 = .ok (.putfield 63, 3) := by decide +kernel
theorem dX12_init_740 : decode cX12_init 740 = .ok (.aload_n 0, 1) := by decide +kernel
theorem dX12_init_741 : decode cX12_init 741 = .ok (.bipush 12, 2) := by decide +kernel
theorem dX12_init_743 : decode cX12_init 743 = .ok (.newarray .int, 2) := by decide +kernel
theorem dX12_init_745 : decode cX12_init 745 = .ok (.dup, 1) := by decide +kernel
theorem dX12_init_746 : decode cX12_init 746 = .ok (.iconst 0, 1) := by decide +kernel
theorem dX12_init_747 : decode cX12_init 747 = .ok (.iconst 0, 1) := by decide +kernel
theorem dX12_init_748 : decode cX12_init 748 = .ok (.iastore, 1) := by decide +kernel
theorem dX12_init_749 : decode cX12_init 749 = .ok (.dup, 1) := by decide +kernel
theorem dX12_init_750 : decode cX12_init 750 = .ok (.iconst 1, 1) := by decide +kernel
theorem dX12_init_751 : decode cX12_init 751 = .ok (.iconst 1, 1) := by decide +kernel
theorem dX12_init_752 : decode cX12_init 752 = .ok (.iastore, 1) := by decide +kernel
theorem dX12_init_753 : decode cX12_init 753 = .ok (.dup, 1) := by decide +kernel
theorem dX12_init_754 : decode cX12_init 754 = .ok (.iconst 2, 1) := by decide +kernel
theorem dX12_init_755 : decode cX12_init 755 = .ok (.iconst 2, 1) := by decide +kernel
theorem dX12_init_756 : decode cX12_init 756 = .ok (.iastore, 1) := by decide +kernel
theorem dX12_init_757 : decode cX12_init 757 = .ok (.dup, 1) := by decide +kernel
theorem dX12_init_758 : decode cX12_init 758 = .ok (.iconst 3, 1) := by decide +kernel
theorem dX12_init_759 : decode cX12_init 759 = .ok (.iconst 3, 1) := by decide +kernel
theorem dX12_init_760 : decode cX12_init 760 = .ok (.iastore, 1) := by decide +kernel
theorem dX12_init_761 : decode cX12_init 761 = .ok (.dup, 1) := by decide +kernel
theorem dX12_init_762 : decode cX12_init 762 = .ok (.iconst 4, 1) := by decide +kernel
theorem dX12_init_763 : decode cX12_init 763 = .ok (.iconst 4, 1) := by decide +kernel
theorem dX12_init_764 : decode cX12_init 764 = .ok (.iastore, 1) := by decide +kernel
theorem dX12_init_765 : decode cX12_init 765 = .ok (.dup, 1) := by decide +kernel
theorem dX12_init_766 : decode cX12_init 766 = .ok (.iconst 5, 1) := by decide +kernel
theorem dX12_init_767 : decode cX12_init 767 = .ok (.iconst 5, 1) := by decide +kernel
theorem dX12_init_768 : decode cX12_init 768 = .ok (.iastore, 1) := by decide +kernel
theorem dX12_init_769 : decode cX12_init 769 = .ok (.dup, 1) := by decide +kernel
theorem dX12_init_770 : decode cX12_init 770 = .ok (.bipush 6, 2) := by decide +kernel
theorem dX12_init_772 : decode cX12_init 772 = .ok (.bipush 10, 2) := by decide +kernel
theorem dX12_init_774 : decode cX12_init 774 = .ok (.iastore, 1) := by decide +kernel
theorem dX12_init_775 : decode cX12_init 775 = .ok (.dup, 1) := by decide +kernel
theorem dX12_init_776 : decode cX12_init 776 = .ok (.bipush 7, 2) := by decide +kernel
theorem dX12_init_778 : decode cX12_init 778 = .ok (.bipush 11, 2) := by decide +kernel
theorem dX12_init_780 : decode cX12_init 780 = .ok (.iastore, 1) := by decide +kernel
theorem dX12_init_781 : decode cX12_init 781 = .ok (.dup, 1) := by decide +kernel
theorem dX12_init_782 : decode cX12_init 782 = .ok (.bipush 8, 2) := by decide +kernel
theorem dX12_init_784 : decode cX12_init 784 = .ok (.bipush 12, 2) := by decide +kernel
theorem dX12_init_786 : decode cX12_init 786 = .ok (.iastore, 1) := by decide +kernel
theorem dX12_init_787 : decode cX12_init 787 = .ok (.dup, 1) := by decide +kernel
theorem dX12_init_788 : decode cX12_init 788 = .ok (.bipush 9, 2) := by decide +kernel
theorem dX12_init_790 : decode cX12_init 790 = .ok (.bipush 13, 2) := by decide +kernel
theorem dX12_init_792 : decode cX12_init 792 = .ok (.iastore, 1) := by decide +kernel
theorem dX12_init_793 : decode cX12_init 793 = .ok (.dup, 1) := by decide +kernel
theorem dX12_init_794 : decode cX12_init 794 = .ok (.bipush 10, 2) := by decide +kernel
theorem dX12_init_796 : decode cX12_init 796 = .ok (.bipush 14, 2) := by decide +kernel
theorem dX12_init_798 : decode cX12_init 798 = .ok (.iastore, 1) := by decide +kernel
theorem dX12_init_799 : decode cX12_init 799 = .ok (.dup, 1) := by decide +kernel
theorem dX12_init_800 : decode cX12_init 800 = .ok (.bipush 11, 2) := by decide +kernel
theorem dX12_init_802 : decode cX12_init 802 = .ok (.bipush 15, 2) := by decide +kernel
theorem dX12_init_804 : decode cX12_init 804 = .ok (.iastore, 1) := by decide +kernel
theorem dX12_init_805 : decode cX12_init 805 = .ok (.putfield 66, 3) := by decide +kernel
theorem dX12_init_808 : decode cX12_init 808 = .ok (.aload_n 0, 1) := by decide +kernel
theorem dX12_init_809 : decode cX12_init 809 = .ok (.bipush 10, 2) := by decide +kernel
theorem dX12_init_811 : decode cX12_init 811 = .ok (.newarray .int, 2) := by decide +kernel
theorem dX12_init_813 : decode cX12_init 813 = .ok (.putfield 69, 3) := by decide +kernel
theorem dX12_init_816 : decode cX12_init 816 = .ok (.aload_n 0, 1) := by decide +kernel
theorem dX12_init_817 : decode cX12_init 817 = .ok (.bipush 10, 2) := by decide +kernel
theorem dX12_init_819 : decode cX12_init 819 = .ok (.newarray .int, 2) := by decide +kernel
theorem dX12_init_821 : decode cX12_init 821 = .ok (.putfield 72, 3) := by decide +kernel
theorem dX12_init_824 : decode cX12_init 824 = .ok (.aload_n 0, 1) := by decide +kernel
theorem dX12_init_825 : decode cX12_init 825 = .ok (.bipush 10, 2) := by decide +kernel
theorem dX12_init_827 : decode cX12_init 827 = .ok (.newarray .int, 2) := by decide +kernel
theorem dX12_init_829 : decode cX12_init 829 = .ok (.putfield 75, 3) := by decide +kernel
theorem dX12_init_832 : decode cX12_init 832 = .ok (.aload_n 0, 1) := by decide +kernel
theorem dX12_init_833 : decode cX12_init 833 = .ok (.bipush 10, 2) := by decide +kernel
theorem dX12_init_835 : decode cX12_init 835 = .ok (.newarray .boolean, 2) := by decide +kernel
theorem dX12_init_837 : decode cX12_init 837 = .ok (.putfield 78, 3) := by decide +kernel
theorem dX12_init_840 : decode cX12_init 840 = .ok (.aload_n 0, 1) := by decide +kernel
theorem dX12_init_841 : decode cX12_init 841 = .ok (.bipush 10, 2) := by decide +kernel
theorem dX12_init_843 : decode cX12_init 843 = .ok (.newarray .boolean, 2) := by decide +kernel
theorem dX12_init_845 : decode cX12_init 845 = .ok (.putfield 82, 3) := by decide +kernel
theorem dX12_init_848 : decode cX12_init 848 = .ok (.aload_n 0, 1) := by decide +kernel
theorem dX12_init_849 : decode cX12_init 849 = .ok (.iconst 4, 1) := by decide +kernel
theorem dX12_init_850 : decode cX12_init 850 = .ok (.newarray .int, 2) := by decide +kernel
theorem dX12_init_852 : decode cX12_init 852 = .ok (.putfield 85, 3) := by decide +kernel
theorem dX12_init_855 : decode cX12_init 855 = .ok (.aload_n 0, 1) := by decide +kernel
theorem dX12_init_856 : decode cX12_init 856 = .ok (.sipush 2000, 3) := by decide +kernel
theorem dX12_init_859 : decode cX12_init 859 = .ok (.newarray .int, 2) := by decide +kernel
theorem dX12_init_861 : decode cX12_init 861 = .ok (.putfield 88, 3) := by decide +kernel
theorem dX12_init_864 : decode cX12_init 864 = .ok (.aload_n 0, 1) := by decide +kernel
theorem dX12_init_865 : decode cX12_init 865 = .ok (.sipush 2000, 3) := by decide +kernel
theorem dX12_init_868 : decode cX12_init 868 = .ok (.newarray .int, 2) := by decide +kernel
theorem dX12_init_870 : decode cX12_init 870 = .ok (.putfield 91, 3) := by decide +kernel
theorem dX12_init_873 : decode cX12_init 873 = .ok (.aload_n 0, 1) := by decide +kernel
theorem dX12_init_874 : decode cX12_init 874 = .ok (.bipush 48, 2) := by decide +kernel
theorem dX12_init_876 : decode cX12_init 876 = .ok (.newarray .int, 2) := by decide +kernel
theorem dX12_init_878 : decode cX12_init 878 = .ok (.putfield 94, 3) := by decide +kernel
theorem dX12_init_881 : decode cX12_init 881 = .ok (.aload_n 0, 1) := by decide +kernel
theorem dX12_init_882 : decode cX12_init 882 = .ok (.bipush 48, 2) := by decide +kernel
theorem dX12_init_884 : decode cX12_init 884 = .ok (.newarray .int, 2) := by decide +kernel
theorem dX12_init_886 : decode cX12_init 886 = .ok (.putfield 97, 3) := by decide +kernel
theorem dX12_init_889 : decode cX12_init 889 = .ok (.aload_n 0, 1) := by decide +kernel
theorem dX12_init_890 : decode cX12_init 890 = .ok (.bipush 48, 2) := by decide +kernel
theorem dX12_init_892 : decode cX12_init 892 = .ok (.newarray .int, 2) := by decide +kernel
theorem dX12_init_894 : decode cX12_init 894 = .ok (.putfield 100, 3) := by decide +kernel
theorem dX12_init_897 : decode cX12_init 897 = .ok (.aload_n 0, 1) := by decide +kernel
theorem dX12_init_898 : decode cX12_init 898 = .ok (.iconst 4, 1) := by decide +kernel
theorem dX12_init_899 : decode cX12_init 899 = .ok (.newarray .int, 2) := by decide +kernel
theorem dX12_init_901 : decode cX12_init 901 = .ok (.putfield 103, 3) := by decide +kernel
theorem dX12_init_904 : decode cX12_init 904 = .ok (.aload_n 0, 1) := by decide +kernel
theorem dX12_init_905 : decode cX12_init 905 = .ok (.bipush 10, 2) := by decide +kernel
theorem dX12_init_907 : decode cX12_init 907 = .ok (.newarray .int, 2) := by decide +kernel
theorem dX12_init_909 : decode cX12_init 909 = .ok (.putfield 106, 3) := by decide +kernel
theorem dX12_init_912 : decode cX12_init 912 = .ok (.aload_n 0, 1) := by decide +kernel
theorem dX12_init_913 : decode cX12_init 913 = .ok (.iconst 4, 1) := by decide +kernel
theorem dX12_init_914 : decode cX12_init 914 = .ok (.newarray .int, 2) := by decide +kernel
theorem dX12_init_916 : decode cX12_init 916 = .ok (.dup, 1) := by decide +kernel
theorem dX12_init_917 : decode cX12_init 917 = .ok (.iconst 0, 1) := by decide +kernel
theorem dX12_init_918 : decode cX12_init 918 = .ok (.iconst (-1), 1) := by decide +kernel
theorem dX12_init_919 : decode cX12_init 919 = .ok (.iastore, 1) := by decide +kernel
theorem dX12_init_920 : decode cX12_init 920 = .ok (.dup, 1) := by decide +kernel
theorem dX12_init_921 : decode cX12_init 921 = .ok (.iconst 1, 1) := by decide +kernel
theorem dX12_init_922 : decode cX12_init 922 = .ok (.iconst (-1), 1) := by decide +kernel
theorem dX12_init_923 : decode cX12_init 923 = .ok (.iastore, 1) := by decide +kernel
theorem dX12_init_924 : decode cX12_init 924 = .ok (.dup, 1) := by decide +kernel
theorem dX12_init_925 : decode cX12_init 925 = .ok (.iconst 2, 1) := by decide +kernel
theorem dX12_init_926 : decode cX12_init 926 = .ok (.iconst (-1), 1) := by decide +kernel
theorem dX12_init_927 : decode cX12_init 927 = .ok (.iastore, 1) := by decide +kernel
theorem dX12_init_928 : decode cX12_init 928 = .ok (.dup, 1) := by decide +kernel
theorem dX12_init_929 : decode cX12_init 929 = .ok (.iconst 3, 1) := by decide +kernel
theorem dX12_init_930 : decode cX12_init 930 = .ok (.iconst (-1), 1) := by decide +kernel
theorem dX12_init_931 : decode cX12_init 931 = .ok (.iastore, 1) := by decide +kernel
theorem dX12_init_932 : decode cX12_init 932 = .ok (.putfield 109, 3) := by decide +kernel
theorem dX12_init_935 : decode cX12_init 935 = .ok (.aload_n 0, 1) := by decide +kernel
theorem dX12_init_936 : decode cX12_init 936 = .ok (.iconst 4, 1) := by decide +kernel
theorem dX12_init_937 : decode cX12_init 937 = .ok (.newarray .int, 2) := by decide +kernel
theorem dX12_init_939 : decode cX12_init 939 = .ok (.putfield 112, 3) := by decide +kernel
theorem dX12_init_942 : decode cX12_init 942 = .ok (.aload_n 0, 1) := by decide +kernel
theorem dX12_init_943 : decode cX12_init 943 = .ok (.sipush 160, 3) := by decide +kernel
theorem dX12_init_946 : decode cX12_init 946 = .ok (.newarray .int, 2) := by decide +kernel
theorem dX12_init_948 : decode cX12_init 948 = .ok (.putfield 115, 3) := by decide +kernel
theorem dX12_init_951 : decode cX12_init 951 = .ok (.aload_n 0, 1) := by decide +kernel
theorem dX12_init_952 : decode cX12_init 952 = .ok (.bipush 40, 2) := by decide +kernel
theorem dX12_init_954 : decode cX12_init 954 = .ok (.newarray .int, 2) := by decide +kernel
theorem dX12_init_956 : decode cX12_init 956 = .ok (.putfield 118, 3) := by decide +kernel
theorem dX12_init_959 : decode cX12_init 959 = .ok (.return_, 1) := by decide +kernel
theorem dX12_in_0 : decode cX12_in 0 = .ok (.iload_n 0, 1) := by decide +kernel
theorem dX12_in_1 : decode cX12_in 1 = .ok (.iload_n 1, 1) := by decide +kernel
theorem dX12_in_2 : decode cX12_in 2 = .ok (.if_icmp .lt 12, 3) := by decide +kernel
theorem dX12_in_5 : decode cX12_in 5 = .ok (.iload_n 0, 1) := by decide +kernel
theorem dX12_in_6 : decode cX12_in 6 = .ok (.iload_n 2, 1) := by decide +kernel
theorem dX12_in_7 : decode cX12_in 7 = .ok (.if_icmp .gt 7, 3) := by decide +kernel
theorem dX12_in_10 : decode cX12_in 10 = .ok (.iconst 1, 1) := by decide +kernel
theorem dX12_in_11 : decode cX12_in 11 = .ok (.goto 4, 3) := by decide +kernel
theorem dX12_in_14 : decode cX12_in 14 = .ok (.iconst 0, 1) := by decide +kernel
theorem dX12_in_15 : decode cX12_in 15 = .ok (.ireturn, 1) := by decide +kernel
theorem dX12_held_0 : decode cX12_held 0 = .ok (.iload_n 0, 1) := by decide +kernel
theorem dX12_held_1 : decode cX12_held 1 = .ok (.ifCond .ge 7, 3) := by decide +kernel
theorem dX12_held_4 : decode cX12_held 4 = .ok (.iconst 0, 1) := by decide +kernel
theorem dX12_held_5 : decode cX12_held 5 = .ok (.goto 13, 3) := by decide +kernel
theorem dX12_held_8 : decode cX12_held 8 = .ok (.iload_n 0, 1) := by decide +kernel
theorem dX12_held_9 : decode cX12_held 9 = .ok (.iload_n 1, 1) := by decide +kernel
theorem dX12_held_10 : decode cX12_held 10 = .ok (.if_icmp .le 7, 3) := by decide +kernel
theorem dX12_held_13 : decode cX12_held 13 = .ok (.iload_n 1, 1) := by decide +kernel
theorem dX12_held_14 : decode cX12_held 14 = .ok (.goto 4, 3) := by decide +kernel
theorem dX12_held_17 : decode cX12_held 17 = .ok (.iload_n 0, 1) := by decide +kernel
theorem dX12_held_18 : decode cX12_held 18 = .ok (.ireturn, 1) := by decide +kernel
theorem dX12_isSinger_0 : decode cX12_isSinger 0 = .ok (.iload_n 1, 1) := by decide +kernel
theorem dX12_isSinger_1 : decode cX12_isSinger 1 = .ok (.iconst 0, 1) := by decide +kernel
theorem dX12_isSinger_2 : decode cX12_isSinger 2 = .ok (.aload_n 0, 1) := by decide +kernel
theorem dX12_isSinger_3 : decode cX12_isSinger 3 = .ok (.getfield 124, 3) := by decide +kernel
theorem dX12_isSinger_6 : decode cX12_isSinger 6 = .ok (.iconst 1, 1) := by decide +kernel
theorem dX12_isSinger_7 : decode cX12_isSinger 7 = .ok (.isub, 1) := by decide +kernel
theorem dX12_isSinger_8 : decode cX12_isSinger 8 = .ok (.invokestatic 127, 3) := by decide +kernel
theorem dX12_isSinger_11 : decode cX12_isSinger 11 = .ok (.ireturn, 1) := by decide +kernel
theorem dX12_isStep_0 : decode cX12_isStep 0 = .ok (.iload_n 1, 1) := by decide +kernel
theorem dX12_isStep_1 : decode cX12_isStep 1 = .ok (.iconst 0, 1) := by decide +kernel
theorem dX12_isStep_2 : decode cX12_isStep 2 = .ok (.aload_n 0, 1) := by decide +kernel
theorem dX12_isStep_3 : decode cX12_isStep 3 = .ok (.getfield 7, 3) := by decide +kernel
theorem dX12_isStep_6 : decode cX12_isStep 6 = .ok (.iconst 1, 1) := by decide +kernel
theorem dX12_isStep_7 : decode cX12_isStep 7 = .ok (.isub, 1) := by decide +kernel
theorem dX12_isStep_8 : decode cX12_isStep 8 = .ok (.invokestatic 127, 3) := by decide +kernel
theorem dX12_isStep_11 : decode cX12_isStep 11 = .ok (.ireturn, 1) := by decide +kernel
theorem dX12_set_0 : decode cX12_set 0 = .ok (.iload_n 1, 1) := by decide +kernel
theorem dX12_set_1 : decode cX12_set 1 = .ok (.tableswitch 253 0 5 #[39, 80, 120, 160, 200, 227], 39) := by decide +kernel
theorem dX12_set_40 : decode cX12_set 40 = .ok (.iload_n 2, 1) := by decide +kernel
theorem dX12_set_41 : decode cX12_set 41 = .ok (.iconst 0, 1) := by decide +kernel
theorem dX12_set_42 : decode cX12_set 42 = .ok (.bipush 47, 2) := by decide +kernel
theorem dX12_set_44 : decode cX12_set 44 = .ok (.invokestatic 127, 3) := by decide +kernel
theorem dX12_set_47 : decode cX12_set 47 = .ok (.ifCond .eq 13, 3) := by decide +kernel
theorem dX12_set_50 : decode cX12_set 50 = .ok (.iload_n 3, 1) := by decide +kernel
theorem dX12_set_51 : decode cX12_set 51 = .ok (.iconst 0, 1) := by decide +kernel
theorem dX12_set_52 : decode cX12_set 52 = .ok (.bipush 9, 2) := by decide +kernel
theorem dX12_set_54 : decode cX12_set 54 = .ok (.invokestatic 127, 3) := by decide +kernel
theorem dX12_set_57 : decode cX12_set 57 = .ok (.ifCond .ne 6, 3) := by decide +kernel
theorem dX12_set_60 : decode cX12_set 60 = .ok (.bipush (-2), 2) := by decide +kernel
theorem dX12_set_62 : decode cX12_set 62 = .ok (.ireturn, 1) := by decide +kernel
theorem dX12_set_63 : decode cX12_set 63 = .ok (.aload_n 0, 1) := by decide +kernel
theorem dX12_set_64 : decode cX12_set 64 = .ok (.getfield 13, 3) := by decide +kernel
theorem dX12_set_67 : decode cX12_set 67 = .ok (.iload_n 2, 1) := by decide +kernel
theorem dX12_set_68 : decode cX12_set 68 = .ok (.iaload, 1) := by decide +kernel
theorem dX12_set_69 : decode cX12_set 69 = .ok (.istore 4, 2) := by decide +kernel
theorem dX12_set_71 : decode cX12_set 71 = .ok (.aload_n 0, 1) := by decide +kernel
theorem dX12_set_72 : decode cX12_set 72 = .ok (.getfield 13, 3) := by decide +kernel
theorem dX12_set_75 : decode cX12_set 75 = .ok (.iload_n 2, 1) := by decide +kernel
theorem dX12_set_76 : decode cX12_set 76 = .ok (.iload_n 3, 1) := by decide +kernel
theorem dX12_set_77 : decode cX12_set 77 = .ok (.iastore, 1) := by decide +kernel
theorem dX12_set_78 : decode cX12_set 78 = .ok (.iload 4, 2) := by decide +kernel
theorem dX12_set_80 : decode cX12_set 80 = .ok (.ireturn, 1) := by decide +kernel
theorem dX12_set_81 : decode cX12_set 81 = .ok (.iload_n 2, 1) := by decide +kernel
theorem dX12_set_82 : decode cX12_set 82 = .ok (.iconst 0, 1) := by decide +kernel
theorem dX12_set_83 : decode cX12_set 83 = .ok (.bipush 47, 2) := by decide +kernel
theorem dX12_set_85 : decode cX12_set 85 = .ok (.invokestatic 127, 3) := by decide +kernel
theorem dX12_set_88 : decode cX12_set 88 = .ok (.ifCond .eq 12, 3) := by decide +kernel
theorem dX12_set_91 : decode cX12_set 91 = .ok (.iload_n 3, 1) := by decide +kernel
theorem dX12_set_92 : decode cX12_set 92 = .ok (.iconst 0, 1) := by decide +kernel
theorem dX12_set_93 : decode cX12_set 93 = .ok (.iconst 1, 1) := by decide +kernel
theorem dX12_set_94 : decode cX12_set 94 = .ok (.invokestatic 127, 3) := by decide +kernel
theorem dX12_set_97 : decode cX12_set 97 = .ok (.ifCond .ne 6, 3) := by decide +kernel
theorem dX12_set_100 : decode cX12_set 100 = .ok (.bipush (-2), 2) := by decide +kernel
theorem dX12_set_102 : decode cX12_set 102 = .ok (.ireturn, 1) := by decide +kernel
theorem dX12_set_103 : decode cX12_set 103 = .ok (.aload_n 0, 1) := by decide +kernel
theorem dX12_set_104 : decode cX12_set 104 = .ok (.getfield 17, 3) := by decide +kernel
theorem dX12_set_107 : decode cX12_set 107 = .ok (.iload_n 2, 1) := by decide +kernel
theorem dX12_set_108 : decode cX12_set 108 = .ok (.iaload, 1) := by decide +kernel
theorem dX12_set_109 : decode cX12_set 109 = .ok (.istore 4, 2) := by decide +kernel
theorem dX12_set_111 : decode cX12_set 111 = .ok (.aload_n 0, 1) := by decide +kernel
theorem dX12_set_112 : decode cX12_set 112 = .ok (.getfield 17, 3) := by decide +kernel
theorem dX12_set_115 : decode cX12_set 115 = .ok (.iload_n 2, 1) := by decide +kernel
theorem dX12_set_116 : decode cX12_set 116 = .ok (.iload_n 3, 1) := by decide +kernel
theorem dX12_set_117 : decode cX12_set 117 = .ok (.iastore, 1) := by decide +kernel
theorem dX12_set_118 : decode cX12_set 118 = .ok (.iload 4, 2) := by decide +kernel
theorem dX12_set_120 : decode cX12_set 120 = .ok (.ireturn, 1) := by decide +kernel
theorem dX12_set_121 : decode cX12_set 121 = .ok (.iload_n 2, 1) := by decide +kernel
theorem dX12_set_122 : decode cX12_set 122 = .ok (.iconst 0, 1) := by decide +kernel
theorem dX12_set_123 : decode cX12_set 123 = .ok (.bipush 47, 2) := by decide +kernel
theorem dX12_set_125 : decode cX12_set 125 = .ok (.invokestatic 127, 3) := by decide +kernel
theorem dX12_set_128 : decode cX12_set 128 = .ok (.ifCond .eq 12, 3) := by decide +kernel
theorem dX12_set_131 : decode cX12_set 131 = .ok (.iload_n 3, 1) := by decide +kernel
theorem dX12_set_132 : decode cX12_set 132 = .ok (.iconst 0, 1) := by decide +kernel
theorem dX12_set_133 : decode cX12_set 133 = .ok (.iconst 1, 1) := by decide +kernel
theorem dX12_set_134 : decode cX12_set 134 = .ok (.invokestatic 127, 3) := by decide +kernel
theorem dX12_set_137 : decode cX12_set 137 = .ok (.ifCond .ne 6, 3) := by decide +kernel
theorem dX12_set_140 : decode cX12_set 140 = .ok (.bipush (-2), 2) := by decide +kernel
theorem dX12_set_142 : decode cX12_set 142 = .ok (.ireturn, 1) := by decide +kernel
theorem dX12_set_143 : decode cX12_set 143 = .ok (.aload_n 0, 1) := by decide +kernel
theorem dX12_set_144 : decode cX12_set 144 = .ok (.getfield 20, 3) := by decide +kernel
theorem dX12_set_147 : decode cX12_set 147 = .ok (.iload_n 2, 1) := by decide +kernel
theorem dX12_set_148 : decode cX12_set 148 = .ok (.iaload, 1) := by decide +kernel
theorem dX12_set_149 : decode cX12_set 149 = .ok (.istore 4, 2) := by decide +kernel
theorem dX12_set_151 : decode cX12_set 151 = .ok (.aload_n 0, 1) := by decide +kernel
theorem dX12_set_152 : decode cX12_set 152 = .ok (.getfield 20, 3) := by decide +kernel
theorem dX12_set_155 : decode cX12_set 155 = .ok (.iload_n 2, 1) := by decide +kernel
theorem dX12_set_156 : decode cX12_set 156 = .ok (.iload_n 3, 1) := by decide +kernel
theorem dX12_set_157 : decode cX12_set 157 = .ok (.iastore, 1) := by decide +kernel
theorem dX12_set_158 : decode cX12_set 158 = .ok (.iload 4, 2) := by decide +kernel
theorem dX12_set_160 : decode cX12_set 160 = .ok (.ireturn, 1) := by decide +kernel
theorem dX12_set_161 : decode cX12_set 161 = .ok (.iload_n 2, 1) := by decide +kernel
theorem dX12_set_162 : decode cX12_set 162 = .ok (.iconst 0, 1) := by decide +kernel
theorem dX12_set_163 : decode cX12_set 163 = .ok (.iconst 3, 1) := by decide +kernel
theorem dX12_set_164 : decode cX12_set 164 = .ok (.invokestatic 127, 3) := by decide +kernel
theorem dX12_set_167 : decode cX12_set 167 = .ok (.ifCond .eq 13, 3) := by decide +kernel
theorem dX12_set_170 : decode cX12_set 170 = .ok (.iload_n 3, 1) := by decide +kernel
theorem dX12_set_171 : decode cX12_set 171 = .ok (.iconst 0, 1) := by decide +kernel
theorem dX12_set_172 : decode cX12_set 172 = .ok (.bipush 9, 2) := by decide +kernel
theorem dX12_set_174 : decode cX12_set 174 = .ok (.invokestatic 127, 3) := by decide +kernel
theorem dX12_set_177 : decode cX12_set 177 = .ok (.ifCond .ne 6, 3) := by decide +kernel
theorem dX12_set_180 : decode cX12_set 180 = .ok (.bipush (-2), 2) := by decide +kernel
theorem dX12_set_182 : decode cX12_set 182 = .ok (.ireturn, 1) := by decide +kernel
theorem dX12_set_183 : decode cX12_set 183 = .ok (.aload_n 0, 1) := by decide +kernel
theorem dX12_set_184 : decode cX12_set 184 = .ok (.getfield 23, 3) := by decide +kernel
theorem dX12_set_187 : decode cX12_set 187 = .ok (.iload_n 2, 1) := by decide +kernel
theorem dX12_set_188 : decode cX12_set 188 = .ok (.iaload, 1) := by decide +kernel
theorem dX12_set_189 : decode cX12_set 189 = .ok (.istore 4, 2) := by decide +kernel
theorem dX12_set_191 : decode cX12_set 191 = .ok (.aload_n 0, 1) := by decide +kernel
theorem dX12_set_192 : decode cX12_set 192 = .ok (.getfield 23, 3) := by decide +kernel
theorem dX12_set_195 : decode cX12_set 195 = .ok (.iload_n 2, 1) := by decide +kernel
theorem dX12_set_196 : decode cX12_set 196 = .ok (.iload_n 3, 1) := by decide +kernel
theorem dX12_set_197 : decode cX12_set 197 = .ok (.iastore, 1) := by decide +kernel
theorem dX12_set_198 : decode cX12_set 198 = .ok (.iload 4, 2) := by decide +kernel
theorem dX12_set_200 : decode cX12_set 200 = .ok (.ireturn, 1) := by decide +kernel
theorem dX12_set_201 : decode cX12_set 201 = .ok (.iload_n 3, 1) := by decide +kernel
theorem dX12_set_202 : decode cX12_set 202 = .ok (.iconst 1, 1) := by decide +kernel
theorem dX12_set_203 : decode cX12_set 203 = .ok (.bipush 48, 2) := by decide +kernel
theorem dX12_set_205 : decode cX12_set 205 = .ok (.invokestatic 127, 3) := by decide +kernel
theorem dX12_set_208 : decode cX12_set 208 = .ok (.ifCond .ne 6, 3) := by decide +kernel
theorem dX12_set_211 : decode cX12_set 211 = .ok (.bipush (-2), 2) := by decide +kernel
theorem dX12_set_213 : decode cX12_set 213 = .ok (.ireturn, 1) := by decide +kernel
theorem dX12_set_214 : decode cX12_set 214 = .ok (.aload_n 0, 1) := by decide +kernel
theorem dX12_set_215 : decode cX12_set 215 = .ok (.getfield 7, 3) := by decide +kernel
theorem dX12_set_218 : decode cX12_set 218 = .ok (.istore 4, 2) := by decide +kernel
theorem dX12_set_220 : decode cX12_set 220 = .ok (.aload_n 0, 1) := by decide +kernel
theorem dX12_set_221 : decode cX12_set 221 = .ok (.iload_n 3, 1) := by decide +kernel
theorem dX12_set_222 : decode cX12_set 222 = .ok (.putfield 7, 3) := by decide +kernel
theorem dX12_set_225 : decode cX12_set 225 = .ok (.iload 4, 2) := by decide +kernel
theorem dX12_set_227 : decode cX12_set 227 = .ok (.ireturn, 1) := by decide +kernel
theorem dX12_set_228 : decode cX12_set 228 = .ok (.iload_n 3, 1) := by decide +kernel
theorem dX12_set_229 : decode cX12_set 229 = .ok (.iconst 0, 1) := by decide +kernel
theorem dX12_set_230 : decode cX12_set 230 = .ok (.iconst 5, 1) := by decide +kernel
theorem dX12_set_231 : decode cX12_set 231 = .ok (.invokestatic 127, 3) := by decide +kernel
theorem dX12_set_234 : decode cX12_set 234 = .ok (.ifCond .ne 6, 3) := by decide +kernel
theorem dX12_set_237 : decode cX12_set 237 = .ok (.bipush (-2), 2) := by decide +kernel
theorem dX12_set_239 : decode cX12_set 239 = .ok (.ireturn, 1) := by decide +kernel
theorem dX12_set_240 : decode cX12_set 240 = .ok (.aload_n 0, 1) := by decide +kernel
theorem dX12_set_241 : decode cX12_set 241 = .ok (.getfield 131, 3) := by decide +kernel
theorem dX12_set_244 : decode cX12_set 244 = .ok (.istore 4, 2) := by decide +kernel
theorem dX12_set_246 : decode cX12_set 246 = .ok (.aload_n 0, 1) := by decide +kernel
theorem dX12_set_247 : decode cX12_set 247 = .ok (.iload_n 3, 1) := by decide +kernel
theorem dX12_set_248 : decode cX12_set 248 = .ok (.putfield 131, 3) := by decide +kernel
theorem dX12_set_251 : decode cX12_set 251 = .ok (.iload 4, 2) := by decide +kernel
theorem dX12_set_253 : decode cX12_set 253 = .ok (.ireturn, 1) := by decide +kernel
theorem dX12_set_254 : decode cX12_set 254 = .ok (.bipush (-2), 2) := by decide +kernel
theorem dX12_set_256 : decode cX12_set 256 = .ok (.ireturn, 1) := by decide +kernel
theorem dX12_singer_0 : decode cX12_singer 0 = .ok (.iload_n 1, 1) := by decide +kernel
theorem dX12_singer_1 : decode cX12_singer 1 = .ok (.iconst 0, 1) := by decide +kernel
theorem dX12_singer_2 : decode cX12_singer 2 = .ok (.iconst 5, 1) := by decide +kernel
theorem dX12_singer_3 : decode cX12_singer 3 = .ok (.invokestatic 127, 3) := by decide +kernel
theorem dX12_singer_6 : decode cX12_singer 6 = .ok (.ifCond .eq 49, 3) := by decide +kernel
theorem dX12_singer_9 : decode cX12_singer 9 = .ok (.iload_n 2, 1) := by decide +kernel
theorem dX12_singer_10 : decode cX12_singer 10 = .ok (.ifCond .lt 45, 3) := by decide +kernel
theorem dX12_singer_13 : decode cX12_singer 13 = .ok (.iload_n 2, 1) := by decide +kernel
theorem dX12_singer_14 : decode cX12_singer 14 = .ok (.sipush 1000, 3) := by decide +kernel
theorem dX12_singer_17 : decode cX12_singer 17 = .ok (.idiv, 1) := by decide +kernel
theorem dX12_singer_18 : decode cX12_singer 18 = .ok (.iconst 4, 1) := by decide +kernel
theorem dX12_singer_19 : decode cX12_singer 19 = .ok (.if_icmp .ge 36, 3) := by decide +kernel
theorem dX12_singer_22 : decode cX12_singer 22 = .ok (.iload_n 2, 1) := by decide +kernel
theorem dX12_singer_23 : decode cX12_singer 23 = .ok (.bipush 100, 2) := by decide +kernel
theorem dX12_singer_25 : decode cX12_singer 25 = .ok (.idiv, 1) := by decide +kernel
theorem dX12_singer_26 : decode cX12_singer 26 = .ok (.bipush 10, 2) := by decide +kernel
theorem dX12_singer_28 : decode cX12_singer 28 = .ok (.irem, 1) := by decide +kernel
theorem dX12_singer_29 : decode cX12_singer 29 = .ok (.ifCond .eq 26, 3) := by decide +kernel
theorem dX12_singer_32 : decode cX12_singer 32 = .ok (.iload_n 2, 1) := by decide +kernel
theorem dX12_singer_33 : decode cX12_singer 33 = .ok (.bipush 100, 2) := by decide +kernel
theorem dX12_singer_35 : decode cX12_singer 35 = .ok (.irem, 1) := by decide +kernel
theorem dX12_singer_36 : decode cX12_singer 36 = .ok (.iconst 2, 1) := by decide +kernel
theorem dX12_singer_37 : decode cX12_singer 37 = .ok (.bipush 40, 2) := by decide +kernel
theorem dX12_singer_39 : decode cX12_singer 39 = .ok (.invokestatic 127, 3) := by decide +kernel
theorem dX12_singer_42 : decode cX12_singer 42 = .ok (.ifCond .eq 13, 3) := by decide +kernel
theorem dX12_singer_45 : decode cX12_singer 45 = .ok (.iload_n 3, 1) := by decide +kernel
theorem dX12_singer_46 : decode cX12_singer 46 = .ok (.iconst 0, 1) := by decide +kernel
theorem dX12_singer_47 : decode cX12_singer 47 = .ok (.bipush 9, 2) := by decide +kernel
theorem dX12_singer_49 : decode cX12_singer 49 = .ok (.invokestatic 127, 3) := by decide +kernel
theorem dX12_singer_52 : decode cX12_singer 52 = .ok (.ifCond .ne 6, 3) := by decide +kernel
theorem dX12_singer_55 : decode cX12_singer 55 = .ok (.bipush (-2), 2) := by decide +kernel
theorem dX12_singer_57 : decode cX12_singer 57 = .ok (.ireturn, 1) := by decide +kernel
theorem dX12_singer_58 : decode cX12_singer 58 = .ok (.aload_n 0, 1) := by decide +kernel
theorem dX12_singer_59 : decode cX12_singer 59 = .ok (.getfield 124, 3) := by decide +kernel
theorem dX12_singer_62 : decode cX12_singer 62 = .ok (.bipush 10, 2) := by decide +kernel
theorem dX12_singer_64 : decode cX12_singer 64 = .ok (.if_icmp .ne 6, 3) := by decide +kernel
theorem dX12_singer_67 : decode cX12_singer 67 = .ok (.bipush (-4), 2) := by decide +kernel
theorem dX12_singer_69 : decode cX12_singer 69 = .ok (.ireturn, 1) := by decide +kernel
theorem dX12_singer_70 : decode cX12_singer 70 = .ok (.aload_n 0, 1) := by decide +kernel
theorem dX12_singer_71 : decode cX12_singer 71 = .ok (.getfield 26, 3) := by decide +kernel
theorem dX12_singer_74 : decode cX12_singer 74 = .ok (.aload_n 0, 1) := by decide +kernel
theorem dX12_singer_75 : decode cX12_singer 75 = .ok (.getfield 124, 3) := by decide +kernel
theorem dX12_singer_78 : decode cX12_singer 78 = .ok (.iload_n 1, 1) := by decide +kernel
theorem dX12_singer_79 : decode cX12_singer 79 = .ok (.iastore, 1) := by decide +kernel
theorem dX12_singer_80 : decode cX12_singer 80 = .ok (.aload_n 0, 1) := by decide +kernel
theorem dX12_singer_81 : decode cX12_singer 81 = .ok (.getfield 29, 3) := by decide +kernel
theorem dX12_singer_84 : decode cX12_singer 84 = .ok (.aload_n 0, 1) := by decide +kernel
theorem dX12_singer_85 : decode cX12_singer 85 = .ok (.getfield 124, 3) := by decide +kernel
theorem dX12_singer_88 : decode cX12_singer 88 = .ok (.iload_n 2, 1) := by decide +kernel
theorem dX12_singer_89 : decode cX12_singer 89 = .ok (.sipush 1000, 3) := by decide +kernel
theorem dX12_singer_92 : decode cX12_singer 92 = .ok (.idiv, 1) := by decide +kernel
theorem dX12_singer_93 : decode cX12_singer 93 = .ok (.iastore, 1) := by decide +kernel
theorem dX12_singer_94 : decode cX12_singer 94 = .ok (.aload_n 0, 1) := by decide +kernel
theorem dX12_singer_95 : decode cX12_singer 95 = .ok (.getfield 38, 3) := by decide +kernel
theorem dX12_singer_98 : decode cX12_singer 98 = .ok (.aload_n 0, 1) := by decide +kernel
theorem dX12_singer_99 : decode cX12_singer 99 = .ok (.getfield 124, 3) := by decide +kernel
theorem dX12_singer_102 : decode cX12_singer 102 = .ok (.iload_n 2, 1) := by decide +kernel
theorem dX12_singer_103 : decode cX12_singer 103 = .ok (.bipush 100, 2) := by decide +kernel
theorem dX12_singer_105 : decode cX12_singer 105 = .ok (.idiv, 1) := by decide +kernel
theorem dX12_singer_106 : decode cX12_singer 106 = .ok (.bipush 10, 2) := by decide +kernel
theorem dX12_singer_108 : decode cX12_singer 108 = .ok (.irem, 1) := by decide +kernel
theorem dX12_singer_109 : decode cX12_singer 109 = .ok (.iastore, 1) := by decide +kernel
theorem dX12_singer_110 : decode cX12_singer 110 = .ok (.aload_n 0, 1) := by decide +kernel
theorem dX12_singer_111 : decode cX12_singer 111 = .ok (.getfield 32, 3) := by decide +kernel
theorem dX12_singer_114 : decode cX12_singer 114 = .ok (.aload_n 0, 1) := by decide +kernel
theorem dX12_singer_115 : decode cX12_singer 115 = .ok (.getfield 124, 3) := by decide +kernel
theorem dX12_singer_118 : decode cX12_singer 118 = .ok (.iload_n 2, 1) := by decide +kernel
theorem dX12_singer_119 : decode cX12_singer 119 = .ok (.bipush 100, 2) := by decide +kernel
theorem dX12_singer_121 : decode cX12_singer 121 = .ok (.irem, 1) := by decide +kernel
theorem dX12_singer_122 : decode cX12_singer 122 = .ok (.iastore, 1) := by decide +kernel
theorem dX12_singer_123 : decode cX12_singer 123 = .ok (.aload_n 0, 1) := by decide +kernel
theorem dX12_singer_124 : decode cX12_singer 124 = .ok (.getfield 35, 3) := by decide +kernel
theorem dX12_singer_127 : decode cX12_singer 127 = .ok (.aload_n 0, 1) := by decide +kernel
theorem dX12_singer_128 : decode cX12_singer 128 = .ok (.getfield 124, 3) := by decide +kernel
theorem dX12_singer_131 : decode cX12_singer 131 = .ok (.iload_n 3, 1) := by decide +kernel
theorem dX12_singer_132 : decode cX12_singer 132 = .ok (.iastore, 1) := by decide +kernel
theorem dX12_singer_133 : decode cX12_singer 133 = .ok (.aload_n 0, 1) := by decide +kernel
theorem dX12_singer_134 : decode cX12_singer 134 = .ok (.dup, 1) := by decide +kernel
theorem dX12_singer_135 : decode cX12_singer 135 = .ok (.getfield 124, 3) := by decide +kernel
theorem dX12_singer_138 : decode cX12_singer 138 = .ok (.iconst 1, 1) := by decide +kernel
theorem dX12_singer_139 : decode cX12_singer 139 = .ok (.iadd, 1) := by decide +kernel
theorem dX12_singer_140 : decode cX12_singer 140 = .ok (.putfield 124, 3) := by decide +kernel
theorem dX12_singer_143 : decode cX12_singer 143 = .ok (.aload_n 0, 1) := by decide +kernel
theorem dX12_singer_144 : decode cX12_singer 144 = .ok (.getfield 124, 3) := by decide +kernel
theorem dX12_singer_147 : decode cX12_singer 147 = .ok (.iconst 1, 1) := by decide +kernel
theorem dX12_singer_148 : decode cX12_singer 148 = .ok (.isub, 1) := by decide +kernel
theorem dX12_singer_149 : decode cX12_singer 149 = .ok (.ireturn, 1) := by decide +kernel
theorem dX12_voice_0 : decode cX12_voice 0 = .ok (.aload_n 0, 1) := by decide +kernel
theorem dX12_voice_1 : decode cX12_voice 1 = .ok (.iload_n 1, 1) := by decide +kernel
theorem dX12_voice_2 : decode cX12_voice 2 = .ok (.invokevirtual 134, 3) := by decide +kernel
theorem dX12_voice_5 : decode cX12_voice 5 = .ok (.ifCond .eq 12, 3) := by decide +kernel
theorem dX12_voice_8 : decode cX12_voice 8 = .ok (.iload_n 2, 1) := by decide +kernel
theorem dX12_voice_9 : decode cX12_voice 9 = .ok (.iconst 0, 1) := by decide +kernel
theorem dX12_voice_10 : decode cX12_voice 10 = .ok (.iconst 3, 1) := by decide +kernel
theorem dX12_voice_11 : decode cX12_voice 11 = .ok (.invokestatic 127, 3) := by decide +kernel
theorem dX12_voice_14 : decode cX12_voice 14 = .ok (.ifCond .ne 6, 3) := by decide +kernel
theorem dX12_voice_17 : decode cX12_voice 17 = .ok (.bipush (-2), 2) := by decide +kernel
theorem dX12_voice_19 : decode cX12_voice 19 = .ok (.ireturn, 1) := by decide +kernel
theorem dX12_voice_20 : decode cX12_voice 20 = .ok (.aload_n 0, 1) := by decide +kernel
theorem dX12_voice_21 : decode cX12_voice 21 = .ok (.getfield 29, 3) := by decide +kernel
theorem dX12_voice_24 : decode cX12_voice 24 = .ok (.iload_n 1, 1) := by decide +kernel
theorem dX12_voice_25 : decode cX12_voice 25 = .ok (.iaload, 1) := by decide +kernel
theorem dX12_voice_26 : decode cX12_voice 26 = .ok (.istore_n 3, 1) := by decide +kernel
theorem dX12_voice_27 : decode cX12_voice 27 = .ok (.aload_n 0, 1) := by decide +kernel
theorem dX12_voice_28 : decode cX12_voice 28 = .ok (.getfield 29, 3) := by decide +kernel
theorem dX12_voice_31 : decode cX12_voice 31 = .ok (.iload_n 1, 1) := by decide +kernel
theorem dX12_voice_32 : decode cX12_voice 32 = .ok (.iload_n 2, 1) := by decide +kernel
theorem dX12_voice_33 : decode cX12_voice 33 = .ok (.iastore, 1) := by decide +kernel
theorem dX12_voice_34 : decode cX12_voice 34 = .ok (.iload_n 3, 1) := by decide +kernel
theorem dX12_voice_35 : decode cX12_voice 35 = .ok (.ireturn, 1) := by decide +kernel
theorem dX12_canHold_0 : decode cX12_canHold 0 = .ok (.aload_n 0, 1) := by decide +kernel
theorem dX12_canHold_1 : decode cX12_canHold 1 = .ok (.getfield 32, 3) := by decide +kernel
theorem dX12_canHold_4 : decode cX12_canHold 4 = .ok (.iload_n 1, 1) := by decide +kernel
theorem dX12_canHold_5 : decode cX12_canHold 5 = .ok (.iaload, 1) := by decide +kernel
theorem dX12_canHold_6 : decode cX12_canHold 6 = .ok (.iload_n 3, 1) := by decide +kernel
theorem dX12_canHold_7 : decode cX12_canHold 7 = .ok (.isub, 1) := by decide +kernel
theorem dX12_canHold_8 : decode cX12_canHold 8 = .ok (.istore 4, 2) := by decide +kernel
theorem dX12_canHold_10 : decode cX12_canHold 10 = .ok (.aload_n 0, 1) := by decide +kernel
theorem dX12_canHold_11 : decode cX12_canHold 11 = .ok (.getfield 26, 3) := by decide +kernel
theorem dX12_canHold_14 : decode cX12_canHold 14 = .ok (.iload_n 1, 1) := by decide +kernel
theorem dX12_canHold_15 : decode cX12_canHold 15 = .ok (.iaload, 1) := by decide +kernel
theorem dX12_canHold_16 : decode cX12_canHold 16 = .ok (.tableswitch 99 1 5 #[36, 47, 56, 72, 90], 36) := by decide +kernel
theorem dX12_canHold_52 : decode cX12_canHold 52 = .ok (.iload 4, 2) := by decide +kernel
theorem dX12_canHold_54 : decode cX12_canHold 54 = .ok (.iload_n 3, 1) := by decide +kernel
theorem dX12_canHold_55 : decode cX12_canHold 55 = .ok (.iconst 2, 1) := by decide +kernel
theorem dX12_canHold_56 : decode cX12_canHold 56 = .ok (.idiv, 1) := by decide +kernel
theorem dX12_canHold_57 : decode cX12_canHold 57 = .ok (.iadd, 1) := by decide +kernel
theorem dX12_canHold_58 : decode cX12_canHold 58 = .ok (.istore 5, 2) := by decide +kernel
theorem dX12_canHold_60 : decode cX12_canHold 60 = .ok (.goto 59, 3) := by decide +kernel
theorem dX12_canHold_63 : decode cX12_canHold 63 = .ok (.iload 4, 2) := by decide +kernel
theorem dX12_canHold_65 : decode cX12_canHold 65 = .ok (.iload_n 2, 1) := by decide +kernel
theorem dX12_canHold_66 : decode cX12_canHold 66 = .ok (.isub, 1) := by decide +kernel
theorem dX12_canHold_67 : decode cX12_canHold 67 = .ok (.istore 5, 2) := by decide +kernel
theorem dX12_canHold_69 : decode cX12_canHold 69 = .ok (.goto 50, 3) := by decide +kernel
theorem dX12_canHold_72 : decode cX12_canHold 72 = .ok (.iload 4, 2) := by decide +kernel
theorem dX12_canHold_74 : decode cX12_canHold 74 = .ok (.iload_n 2, 1) := by decide +kernel
theorem dX12_canHold_75 : decode cX12_canHold 75 = .ok (.isub, 1) := by decide +kernel
theorem dX12_canHold_76 : decode cX12_canHold 76 = .ok (.aload_n 0, 1) := by decide +kernel
theorem dX12_canHold_77 : decode cX12_canHold 77 = .ok (.getfield 35, 3) := by decide +kernel
theorem dX12_canHold_80 : decode cX12_canHold 80 = .ok (.iload_n 1, 1) := by decide +kernel
theorem dX12_canHold_81 : decode cX12_canHold 81 = .ok (.iaload, 1) := by decide +kernel
theorem dX12_canHold_82 : decode cX12_canHold 82 = .ok (.isub, 1) := by decide +kernel
theorem dX12_canHold_83 : decode cX12_canHold 83 = .ok (.istore 5, 2) := by decide +kernel
theorem dX12_canHold_85 : decode cX12_canHold 85 = .ok (.goto 34, 3) := by decide +kernel
theorem dX12_canHold_88 : decode cX12_canHold 88 = .ok (.iload 4, 2) := by decide +kernel
theorem dX12_canHold_90 : decode cX12_canHold 90 = .ok (.iload_n 3, 1) := by decide +kernel
theorem dX12_canHold_91 : decode cX12_canHold 91 = .ok (.iconst 2, 1) := by decide +kernel
theorem dX12_canHold_92 : decode cX12_canHold 92 = .ok (.idiv, 1) := by decide +kernel
theorem dX12_canHold_93 : decode cX12_canHold 93 = .ok (.iadd, 1) := by decide +kernel
theorem dX12_canHold_94 : decode cX12_canHold 94 = .ok (.aload_n 0, 1) := by decide +kernel
theorem dX12_canHold_95 : decode cX12_canHold 95 = .ok (.getfield 35, 3) := by decide +kernel
theorem dX12_canHold_98 : decode cX12_canHold 98 = .ok (.iload_n 1, 1) := by decide +kernel
theorem dX12_canHold_99 : decode cX12_canHold 99 = .ok (.iaload, 1) := by decide +kernel
theorem dX12_canHold_100 : decode cX12_canHold 100 = .ok (.iadd, 1) := by decide +kernel
theorem dX12_canHold_101 : decode cX12_canHold 101 = .ok (.istore 5, 2) := by decide +kernel
theorem dX12_canHold_103 : decode cX12_canHold 103 = .ok (.goto 16, 3) := by decide +kernel
theorem dX12_canHold_106 : decode cX12_canHold 106 = .ok (.iload 4, 2) := by decide +kernel
theorem dX12_canHold_108 : decode cX12_canHold 108 = .ok (.iconst 2, 1) := by decide +kernel
theorem dX12_canHold_109 : decode cX12_canHold 109 = .ok (.idiv, 1) := by decide +kernel
theorem dX12_canHold_110 : decode cX12_canHold 110 = .ok (.istore 5, 2) := by decide +kernel
theorem dX12_canHold_112 : decode cX12_canHold 112 = .ok (.goto 7, 3) := by decide +kernel
theorem dX12_canHold_115 : decode cX12_canHold 115 = .ok (.iload 4, 2) := by decide +kernel
theorem dX12_canHold_117 : decode cX12_canHold 117 = .ok (.istore 5, 2) := by decide +kernel
theorem dX12_canHold_119 : decode cX12_canHold 119 = .ok (.iload 5, 2) := by decide +kernel
theorem dX12_canHold_121 : decode cX12_canHold 121 = .ok (.iconst 1, 1) := by decide +kernel
theorem dX12_canHold_122 : decode cX12_canHold 122 = .ok (.if_icmp .ge 7, 3) := by decide +kernel
theorem dX12_canHold_125 : decode cX12_canHold 125 = .ok (.iconst 1, 1) := by decide +kernel
theorem dX12_canHold_126 : decode cX12_canHold 126 = .ok (.goto 5, 3) := by decide +kernel
theorem dX12_canHold_129 : decode cX12_canHold 129 = .ok (.iload 5, 2) := by decide +kernel
theorem dX12_canHold_131 : decode cX12_canHold 131 = .ok (.ireturn, 1) := by decide +kernel
theorem dX12_takes_0 : decode cX12_takes 0 = .ok (.aload_n 0, 1) := by decide +kernel
theorem dX12_takes_1 : decode cX12_takes 1 = .ok (.getfield 26, 3) := by decide +kernel
theorem dX12_takes_4 : decode cX12_takes 4 = .ok (.iload_n 1, 1) := by decide +kernel
theorem dX12_takes_5 : decode cX12_takes 5 = .ok (.iaload, 1) := by decide +kernel
theorem dX12_takes_6 : decode cX12_takes 6 = .ok (.iconst 5, 1) := by decide +kernel
theorem dX12_takes_7 : decode cX12_takes 7 = .ok (.if_icmp .ne 12, 3) := by decide +kernel
theorem dX12_takes_10 : decode cX12_takes 10 = .ok (.iconst 2, 1) := by decide +kernel
theorem dX12_takes_11 : decode cX12_takes 11 = .ok (.aload_n 0, 1) := by decide +kernel
theorem dX12_takes_12 : decode cX12_takes 12 = .ok (.getfield 38, 3) := by decide +kernel
theorem dX12_takes_15 : decode cX12_takes 15 = .ok (.iload_n 1, 1) := by decide +kernel
theorem dX12_takes_16 : decode cX12_takes 16 = .ok (.iaload, 1) := by decide +kernel
theorem dX12_takes_17 : decode cX12_takes 17 = .ok (.imul, 1) := by decide +kernel
theorem dX12_takes_18 : decode cX12_takes 18 = .ok (.ireturn, 1) := by decide +kernel
theorem dX12_takes_19 : decode cX12_takes 19 = .ok (.aload_n 0, 1) := by decide +kernel
theorem dX12_takes_20 : decode cX12_takes 20 = .ok (.getfield 26, 3) := by decide +kernel
theorem dX12_takes_23 : decode cX12_takes 23 = .ok (.iload_n 1, 1) := by decide +kernel
theorem dX12_takes_24 : decode cX12_takes 24 = .ok (.iaload, 1) := by decide +kernel
theorem dX12_takes_25 : decode cX12_takes 25 = .ok (.iconst 2, 1) := by decide +kernel
theorem dX12_takes_26 : decode cX12_takes 26 = .ok (.if_icmp .eq 13, 3) := by decide +kernel
theorem dX12_takes_29 : decode cX12_takes 29 = .ok (.aload_n 0, 1) := by decide +kernel
theorem dX12_takes_30 : decode cX12_takes 30 = .ok (.getfield 26, 3) := by decide +kernel
theorem dX12_takes_33 : decode cX12_takes 33 = .ok (.iload_n 1, 1) := by decide +kernel
theorem dX12_takes_34 : decode cX12_takes 34 = .ok (.iaload, 1) := by decide +kernel
theorem dX12_takes_35 : decode cX12_takes 35 = .ok (.iconst 3, 1) := by decide +kernel
theorem dX12_takes_36 : decode cX12_takes 36 = .ok (.if_icmp .ne 19, 3) := by decide +kernel
theorem dX12_takes_39 : decode cX12_takes 39 = .ok (.iload_n 2, 1) := by decide +kernel
theorem dX12_takes_40 : decode cX12_takes 40 = .ok (.iconst 3, 1) := by decide +kernel
theorem dX12_takes_41 : decode cX12_takes 41 = .ok (.if_icmp .lt 14, 3) := by decide +kernel
theorem dX12_takes_44 : decode cX12_takes 44 = .ok (.aload_n 0, 1) := by decide +kernel
theorem dX12_takes_45 : decode cX12_takes 45 = .ok (.getfield 38, 3) := by decide +kernel
theorem dX12_takes_48 : decode cX12_takes 48 = .ok (.iload_n 1, 1) := by decide +kernel
theorem dX12_takes_49 : decode cX12_takes 49 = .ok (.iaload, 1) := by decide +kernel
theorem dX12_takes_50 : decode cX12_takes 50 = .ok (.iconst 1, 1) := by decide +kernel
theorem dX12_takes_51 : decode cX12_takes 51 = .ok (.iadd, 1) := by decide +kernel
theorem dX12_takes_52 : decode cX12_takes 52 = .ok (.goto 9, 3) := by decide +kernel
theorem dX12_takes_55 : decode cX12_takes 55 = .ok (.aload_n 0, 1) := by decide +kernel
theorem dX12_takes_56 : decode cX12_takes 56 = .ok (.getfield 38, 3) := by decide +kernel
theorem dX12_takes_59 : decode cX12_takes 59 = .ok (.iload_n 1, 1) := by decide +kernel
theorem dX12_takes_60 : decode cX12_takes 60 = .ok (.iaload, 1) := by decide +kernel
theorem dX12_takes_61 : decode cX12_takes 61 = .ok (.ireturn, 1) := by decide +kernel
theorem dX12_doesSay_0 : decode cX12_doesSay 0 = .ok (.aload_n 0, 1) := by decide +kernel
theorem dX12_doesSay_1 : decode cX12_doesSay 1 = .ok (.getfield 26, 3) := by decide +kernel
theorem dX12_doesSay_4 : decode cX12_doesSay 4 = .ok (.iload_n 1, 1) := by decide +kernel
theorem dX12_doesSay_5 : decode cX12_doesSay 5 = .ok (.iaload, 1) := by decide +kernel
theorem dX12_doesSay_6 : decode cX12_doesSay 6 = .ok (.iconst 5, 1) := by decide +kernel
theorem dX12_doesSay_7 : decode cX12_doesSay 7 = .ok (.if_icmp .ne 5, 3) := by decide +kernel
theorem dX12_doesSay_10 : decode cX12_doesSay 10 = .ok (.iconst 1, 1) := by decide +kernel
theorem dX12_doesSay_11 : decode cX12_doesSay 11 = .ok (.ireturn, 1) := by decide +kernel
theorem dX12_doesSay_12 : decode cX12_doesSay 12 = .ok (.aload_n 0, 1) := by decide +kernel
theorem dX12_doesSay_13 : decode cX12_doesSay 13 = .ok (.getfield 26, 3) := by decide +kernel
theorem dX12_doesSay_16 : decode cX12_doesSay 16 = .ok (.iload_n 1, 1) := by decide +kernel
theorem dX12_doesSay_17 : decode cX12_doesSay 17 = .ok (.iaload, 1) := by decide +kernel
theorem dX12_doesSay_18 : decode cX12_doesSay 18 = .ok (.iconst 1, 1) := by decide +kernel
theorem dX12_doesSay_19 : decode cX12_doesSay 19 = .ok (.if_icmp .eq 13, 3) := by decide +kernel
theorem dX12_doesSay_22 : decode cX12_doesSay 22 = .ok (.aload_n 0, 1) := by decide +kernel
theorem dX12_doesSay_23 : decode cX12_doesSay 23 = .ok (.getfield 26, 3) := by decide +kernel
theorem dX12_doesSay_26 : decode cX12_doesSay 26 = .ok (.iload_n 1, 1) := by decide +kernel
theorem dX12_doesSay_27 : decode cX12_doesSay 27 = .ok (.iaload, 1) := by decide +kernel
theorem dX12_doesSay_28 : decode cX12_doesSay 28 = .ok (.iconst 4, 1) := by decide +kernel
theorem dX12_doesSay_29 : decode cX12_doesSay 29 = .ok (.if_icmp .ne 5, 3) := by decide +kernel
theorem dX12_doesSay_32 : decode cX12_doesSay 32 = .ok (.iconst 0, 1) := by decide +kernel
theorem dX12_doesSay_33 : decode cX12_doesSay 33 = .ok (.ireturn, 1) := by decide +kernel
theorem dX12_doesSay_34 : decode cX12_doesSay 34 = .ok (.aload_n 0, 1) := by decide +kernel
theorem dX12_doesSay_35 : decode cX12_doesSay 35 = .ok (.getfield 26, 3) := by decide +kernel
theorem dX12_doesSay_38 : decode cX12_doesSay 38 = .ok (.iload_n 1, 1) := by decide +kernel
theorem dX12_doesSay_39 : decode cX12_doesSay 39 = .ok (.iaload, 1) := by decide +kernel
theorem dX12_doesSay_40 : decode cX12_doesSay 40 = .ok (.iconst 3, 1) := by decide +kernel
theorem dX12_doesSay_41 : decode cX12_doesSay 41 = .ok (.if_icmp .ne 8, 3) := by decide +kernel
theorem dX12_doesSay_44 : decode cX12_doesSay 44 = .ok (.iload_n 2, 1) := by decide +kernel
theorem dX12_doesSay_45 : decode cX12_doesSay 45 = .ok (.iconst 5, 1) := by decide +kernel
theorem dX12_doesSay_46 : decode cX12_doesSay 46 = .ok (.if_icmp .ge 18, 3) := by decide +kernel
theorem dX12_doesSay_49 : decode cX12_doesSay 49 = .ok (.aload_n 0, 1) := by decide +kernel
theorem dX12_doesSay_50 : decode cX12_doesSay 50 = .ok (.getfield 35, 3) := by decide +kernel
theorem dX12_doesSay_53 : decode cX12_doesSay 53 = .ok (.iload_n 1, 1) := by decide +kernel
theorem dX12_doesSay_54 : decode cX12_doesSay 54 = .ok (.iaload, 1) := by decide +kernel
theorem dX12_doesSay_55 : decode cX12_doesSay 55 = .ok (.iconst 2, 1) := by decide +kernel
theorem dX12_doesSay_56 : decode cX12_doesSay 56 = .ok (.irem, 1) := by decide +kernel
theorem dX12_doesSay_57 : decode cX12_doesSay 57 = .ok (.ifCond .ne 7, 3) := by decide +kernel
theorem dX12_doesSay_60 : decode cX12_doesSay 60 = .ok (.iconst 1, 1) := by decide +kernel
theorem dX12_doesSay_61 : decode cX12_doesSay 61 = .ok (.goto 4, 3) := by decide +kernel
theorem dX12_doesSay_64 : decode cX12_doesSay 64 = .ok (.iconst 0, 1) := by decide +kernel
theorem dX12_doesSay_65 : decode cX12_doesSay 65 = .ok (.ireturn, 1) := by decide +kernel
theorem dX12_told_0 : decode cX12_told 0 = .ok (.aload_n 0, 1) := by decide +kernel
theorem dX12_told_1 : decode cX12_told 1 = .ok (.iload_n 1, 1) := by decide +kernel
theorem dX12_told_2 : decode cX12_told 2 = .ok (.invokevirtual 134, 3) := by decide +kernel
theorem dX12_told_5 : decode cX12_told 5 = .ok (.ifCond .eq 23, 3) := by decide +kernel
theorem dX12_told_8 : decode cX12_told 8 = .ok (.iload_n 2, 1) := by decide +kernel
theorem dX12_told_9 : decode cX12_told 9 = .ok (.iconst 0, 1) := by decide +kernel
theorem dX12_told_10 : decode cX12_told 10 = .ok (.bipush 48, 2) := by decide +kernel
theorem dX12_told_12 : decode cX12_told 12 = .ok (.invokestatic 127, 3) := by decide +kernel
theorem dX12_told_15 : decode cX12_told 15 = .ok (.ifCond .eq 13, 3) := by decide +kernel
theorem dX12_told_18 : decode cX12_told 18 = .ok (.iload_n 3, 1) := by decide +kernel
theorem dX12_told_19 : decode cX12_told 19 = .ok (.iconst 0, 1) := by decide +kernel
theorem dX12_told_20 : decode cX12_told 20 = .ok (.bipush 47, 2) := by decide +kernel
theorem dX12_told_22 : decode cX12_told 22 = .ok (.invokestatic 127, 3) := by decide +kernel
theorem dX12_told_25 : decode cX12_told 25 = .ok (.ifCond .ne 6, 3) := by decide +kernel
theorem dX12_told_28 : decode cX12_told 28 = .ok (.bipush (-2), 2) := by decide +kernel
theorem dX12_told_30 : decode cX12_told 30 = .ok (.ireturn, 1) := by decide +kernel
theorem dX12_told_31 : decode cX12_told 31 = .ok (.iload 4, 2) := by decide +kernel
theorem dX12_told_33 : decode cX12_told 33 = .ok (.tableswitch 100 0 5 #[39, 46, 53, 66, 73, 93], 39) := by decide +kernel
theorem dX12_told_72 : decode cX12_told 72 = .ok (.aload_n 0, 1) := by decide +kernel
theorem dX12_told_73 : decode cX12_told 73 = .ok (.getfield 26, 3) := by decide +kernel
theorem dX12_told_76 : decode cX12_told 76 = .ok (.iload_n 1, 1) := by decide +kernel
theorem dX12_told_77 : decode cX12_told 77 = .ok (.iaload, 1) := by decide +kernel
theorem dX12_told_78 : decode cX12_told 78 = .ok (.ireturn, 1) := by decide +kernel
theorem dX12_told_79 : decode cX12_told 79 = .ok (.aload_n 0, 1) := by decide +kernel
theorem dX12_told_80 : decode cX12_told 80 = .ok (.getfield 29, 3) := by decide +kernel
theorem dX12_told_83 : decode cX12_told 83 = .ok (.iload_n 1, 1) := by decide +kernel
theorem dX12_told_84 : decode cX12_told 84 = .ok (.iaload, 1) := by decide +kernel
theorem dX12_told_85 : decode cX12_told 85 = .ok (.ireturn, 1) := by decide +kernel
theorem dX12_told_86 : decode cX12_told 86 = .ok (.aload_n 0, 1) := by decide +kernel
theorem dX12_told_87 : decode cX12_told 87 = .ok (.iload_n 1, 1) := by decide +kernel
theorem dX12_told_88 : decode cX12_told 88 = .ok (.iload_n 2, 1) := by decide +kernel
theorem dX12_told_89 : decode cX12_told 89 = .ok (.aload_n 0, 1) := by decide +kernel
theorem dX12_told_90 : decode cX12_told 90 = .ok (.getfield 13, 3) := by decide +kernel
theorem dX12_told_93 : decode cX12_told 93 = .ok (.iload_n 3, 1) := by decide +kernel
theorem dX12_told_94 : decode cX12_told 94 = .ok (.iaload, 1) := by decide +kernel
theorem dX12_told_95 : decode cX12_told 95 = .ok (.invokevirtual 138, 3) := by decide +kernel
theorem dX12_told_98 : decode cX12_told 98 = .ok (.ireturn, 1) := by decide +kernel
theorem dX12_told_99 : decode cX12_told 99 = .ok (.aload_n 0, 1) := by decide +kernel
theorem dX12_told_100 : decode cX12_told 100 = .ok (.iload_n 1, 1) := by decide +kernel
theorem dX12_told_101 : decode cX12_told 101 = .ok (.iload_n 2, 1) := by decide +kernel
theorem dX12_told_102 : decode cX12_told 102 = .ok (.invokevirtual 142, 3) := by decide +kernel
theorem dX12_told_105 : decode cX12_told 105 = .ok (.ireturn, 1) := by decide +kernel
theorem dX12_told_106 : decode cX12_told 106 = .ok (.aload_n 0, 1) := by decide +kernel
theorem dX12_told_107 : decode cX12_told 107 = .ok (.iload_n 1, 1) := by decide +kernel
theorem dX12_told_108 : decode cX12_told 108 = .ok (.aload_n 0, 1) := by decide +kernel
theorem dX12_told_109 : decode cX12_told 109 = .ok (.getfield 13, 3) := by decide +kernel
theorem dX12_told_112 : decode cX12_told 112 = .ok (.iload_n 3, 1) := by decide +kernel
theorem dX12_told_113 : decode cX12_told 113 = .ok (.iaload, 1) := by decide +kernel
theorem dX12_told_114 : decode cX12_told 114 = .ok (.invokevirtual 146, 3) := by decide +kernel
theorem dX12_told_117 : decode cX12_told 117 = .ok (.ifCond .eq 7, 3) := by decide +kernel
theorem dX12_told_120 : decode cX12_told 120 = .ok (.iconst 1, 1) := by decide +kernel
theorem dX12_told_121 : decode cX12_told 121 = .ok (.goto 4, 3) := by decide +kernel
theorem dX12_told_124 : decode cX12_told 124 = .ok (.iconst 0, 1) := by decide +kernel
theorem dX12_told_125 : decode cX12_told 125 = .ok (.ireturn, 1) := by decide +kernel
theorem dX12_told_126 : decode cX12_told 126 = .ok (.aload_n 0, 1) := by decide +kernel
theorem dX12_told_127 : decode cX12_told 127 = .ok (.getfield 32, 3) := by decide +kernel
theorem dX12_told_130 : decode cX12_told 130 = .ok (.iload_n 1, 1) := by decide +kernel
theorem dX12_told_131 : decode cX12_told 131 = .ok (.iaload, 1) := by decide +kernel
theorem dX12_told_132 : decode cX12_told 132 = .ok (.ireturn, 1) := by decide +kernel
theorem dX12_told_133 : decode cX12_told 133 = .ok (.bipush (-2), 2) := by decide +kernel
theorem dX12_told_135 : decode cX12_told 135 = .ok (.ireturn, 1) := by decide +kernel
theorem dX12_feed_0 : decode cX12_feed 0 = .ok (.iload_n 1, 1) := by decide +kernel
theorem dX12_feed_1 : decode cX12_feed 1 = .ok (.iconst 1, 1) := by decide +kernel
theorem dX12_feed_2 : decode cX12_feed 2 = .ok (.bipush 8, 2) := by decide +kernel
theorem dX12_feed_4 : decode cX12_feed 4 = .ok (.invokestatic 127, 3) := by decide +kernel
end
section
theorem dX12_feed_7 : decode cX12_feed 7 = .ok (.ifCond .ne 6, 3) := by decide +kernel
theorem dX12_feed_10 : decode cX12_feed 10 = .ok (.bipush (-2), 2) := by decide +kernel
theorem dX12_feed_12 : decode cX12_feed 12 = .ok (.ireturn, 1) := by decide +kernel
theorem dX12_feed_13 : decode cX12_feed 13 = .ok (.aload_n 0, 1) := by decide +kernel
theorem dX12_feed_14 : decode cX12_feed 14 = .ok (.getfield 150, 3) := by decide +kernel
theorem dX12_feed_17 : decode cX12_feed 17 = .ok (.iload_n 1, 1) := by decide +kernel
theorem dX12_feed_18 : decode cX12_feed 18 = .ok (.iadd, 1) := by decide +kernel
theorem dX12_feed_19 : decode cX12_feed 19 = .ok (.sipush 160, 3) := by decide +kernel
theorem dX12_feed_22 : decode cX12_feed 22 = .ok (.if_icmp .le 6, 3) := by decide +kernel
theorem dX12_feed_25 : decode cX12_feed 25 = .ok (.bipush (-4), 2) := by decide +kernel
theorem dX12_feed_27 : decode cX12_feed 27 = .ok (.ireturn, 1) := by decide +kernel
theorem dX12_feed_28 : decode cX12_feed 28 = .ok (.iconst 0, 1) := by decide +kernel
theorem dX12_feed_29 : decode cX12_feed 29 = .ok (.istore 4, 2) := by decide +kernel
theorem dX12_feed_31 : decode cX12_feed 31 = .ok (.iload 4, 2) := by decide +kernel
theorem dX12_feed_33 : decode cX12_feed 33 = .ok (.iload_n 1, 1) := by decide +kernel
theorem dX12_feed_34 : decode cX12_feed 34 = .ok (.if_icmp .ge 37, 3) := by decide +kernel
theorem dX12_feed_37 : decode cX12_feed 37 = .ok (.aload_n 0, 1) := by decide +kernel
theorem dX12_feed_38 : decode cX12_feed 38 = .ok (.getfield 41, 3) := by decide +kernel
theorem dX12_feed_41 : decode cX12_feed 41 = .ok (.aload_n 0, 1) := by decide +kernel
theorem dX12_feed_42 : decode cX12_feed 42 = .ok (.getfield 150, 3) := by decide +kernel
theorem dX12_feed_45 : decode cX12_feed 45 = .ok (.lload_n 2, 1) := by decide +kernel
theorem dX12_feed_46 : decode cX12_feed 46 = .ok (.bipush 8, 2) := by decide +kernel
theorem dX12_feed_48 : decode cX12_feed 48 = .ok (.iload 4, 2) := by decide +kernel
theorem dX12_feed_50 : decode cX12_feed 50 = .ok (.imul, 1) := by decide +kernel
theorem dX12_feed_51 : decode cX12_feed 51 = .ok (.lshr, 1) := by decide +kernel
theorem dX12_feed_52 : decode cX12_feed 52 = .ok (.l2i, 1) := by decide +kernel
theorem dX12_feed_53 : decode cX12_feed 53 = .ok (.i2b, 1) := by decide +kernel
theorem dX12_feed_54 : decode cX12_feed 54 = .ok (.bastore, 1) := by decide +kernel
theorem dX12_feed_55 : decode cX12_feed 55 = .ok (.aload_n 0, 1) := by decide +kernel
theorem dX12_feed_56 : decode cX12_feed 56 = .ok (.dup, 1) := by decide +kernel
theorem dX12_feed_57 : decode cX12_feed 57 = .ok (.getfield 150, 3) := by decide +kernel
theorem dX12_feed_60 : decode cX12_feed 60 = .ok (.iconst 1, 1) := by decide +kernel
theorem dX12_feed_61 : decode cX12_feed 61 = .ok (.iadd, 1) := by decide +kernel
theorem dX12_feed_62 : decode cX12_feed 62 = .ok (.putfield 150, 3) := by decide +kernel
theorem dX12_feed_65 : decode cX12_feed 65 = .ok (.iinc 4 1, 3) := by decide +kernel
theorem dX12_feed_68 : decode cX12_feed 68 = .ok (.goto (-37), 3) := by decide +kernel
theorem dX12_feed_71 : decode cX12_feed 71 = .ok (.aload_n 0, 1) := by decide +kernel
theorem dX12_feed_72 : decode cX12_feed 72 = .ok (.getfield 150, 3) := by decide +kernel
theorem dX12_feed_75 : decode cX12_feed 75 = .ok (.ireturn, 1) := by decide +kernel
theorem dX12_isLetter_0 : decode cX12_isLetter 0 = .ok (.iload_n 0, 1) := by decide +kernel
theorem dX12_isLetter_1 : decode cX12_isLetter 1 = .ok (.bipush 97, 2) := by decide +kernel
theorem dX12_isLetter_3 : decode cX12_isLetter 3 = .ok (.bipush 122, 2) := by decide +kernel
theorem dX12_isLetter_5 : decode cX12_isLetter 5 = .ok (.invokestatic 127, 3) := by decide +kernel
theorem dX12_isLetter_8 : decode cX12_isLetter 8 = .ok (.ireturn, 1) := by decide +kernel
theorem dX12_isDigit_0 : decode cX12_isDigit 0 = .ok (.iload_n 0, 1) := by decide +kernel
theorem dX12_isDigit_1 : decode cX12_isDigit 1 = .ok (.bipush 48, 2) := by decide +kernel
theorem dX12_isDigit_3 : decode cX12_isDigit 3 = .ok (.bipush 57, 2) := by decide +kernel
theorem dX12_isDigit_5 : decode cX12_isDigit 5 = .ok (.invokestatic 127, 3) := by decide +kernel
theorem dX12_isDigit_8 : decode cX12_isDigit 8 = .ok (.ireturn, 1) := by decide +kernel
theorem dX12_wordNow_0 : decode cX12_wordNow 0 = .ok (.iconst 0, 1) := by decide +kernel
theorem dX12_wordNow_1 : decode cX12_wordNow 1 = .ok (.istore_n 1, 1) := by decide +kernel
theorem dX12_wordNow_2 : decode cX12_wordNow 2 = .ok (.iconst 0, 1) := by decide +kernel
theorem dX12_wordNow_3 : decode cX12_wordNow 3 = .ok (.istore_n 2, 1) := by decide +kernel
theorem dX12_wordNow_4 : decode cX12_wordNow 4 = .ok (.iload_n 2, 1) := by decide +kernel
theorem dX12_wordNow_5 : decode cX12_wordNow 5 = .ok (.bipush 12, 2) := by decide +kernel
theorem dX12_wordNow_7 : decode cX12_wordNow 7 = .ok (.if_icmp .ge 86, 3) := by decide +kernel
theorem dX12_wordNow_10 : decode cX12_wordNow 10 = .ok (.aload_n 0, 1) := by decide +kernel
theorem dX12_wordNow_11 : decode cX12_wordNow 11 = .ok (.getfield 153, 3) := by decide +kernel
theorem dX12_wordNow_14 : decode cX12_wordNow 14 = .ok (.istore_n 3, 1) := by decide +kernel
theorem dX12_wordNow_15 : decode cX12_wordNow 15 = .ok (.iconst 1, 1) := by decide +kernel
theorem dX12_wordNow_16 : decode cX12_wordNow 16 = .ok (.istore 4, 2) := by decide +kernel
theorem dX12_wordNow_18 : decode cX12_wordNow 18 = .ok (.aload_n 0, 1) := by decide +kernel
theorem dX12_wordNow_19 : decode cX12_wordNow 19 = .ok (.getfield 63, 3) := by decide +kernel
theorem dX12_wordNow_22 : decode cX12_wordNow 22 = .ok (.iload_n 1, 1) := by decide +kernel
theorem dX12_wordNow_23 : decode cX12_wordNow 23 = .ok (.iaload, 1) := by decide +kernel
theorem dX12_wordNow_24 : decode cX12_wordNow 24 = .ok (.bipush 32, 2) := by decide +kernel
theorem dX12_wordNow_26 : decode cX12_wordNow 26 = .ok (.if_icmp .eq 38, 3) := by decide +kernel
theorem dX12_wordNow_29 : decode cX12_wordNow 29 = .ok (.iload_n 3, 1) := by decide +kernel
theorem dX12_wordNow_30 : decode cX12_wordNow 30 = .ok (.aload_n 0, 1) := by decide +kernel
theorem dX12_wordNow_31 : decode cX12_wordNow 31 = .ok (.getfield 156, 3) := by decide +kernel
theorem dX12_wordNow_34 : decode cX12_wordNow 34 = .ok (.if_icmp .ge 18, 3) := by decide +kernel
theorem dX12_wordNow_37 : decode cX12_wordNow 37 = .ok (.aload_n 0, 1) := by decide +kernel
theorem dX12_wordNow_38 : decode cX12_wordNow 38 = .ok (.getfield 41, 3) := by decide +kernel
theorem dX12_wordNow_41 : decode cX12_wordNow 41 = .ok (.iload_n 3, 1) := by decide +kernel
theorem dX12_wordNow_42 : decode cX12_wordNow 42 = .ok (.baload, 1) := by decide +kernel
theorem dX12_wordNow_43 : decode cX12_wordNow 43 = .ok (.aload_n 0, 1) := by decide +kernel
theorem dX12_wordNow_44 : decode cX12_wordNow 44 = .ok (.getfield 63, 3) := by decide +kernel
theorem dX12_wordNow_47 : decode cX12_wordNow 47 = .ok (.iload_n 1, 1) := by decide +kernel
theorem dX12_wordNow_48 : decode cX12_wordNow 48 = .ok (.iaload, 1) := by decide +kernel
theorem dX12_wordNow_49 : decode cX12_wordNow 49 = .ok (.if_icmp .eq 6, 3) := by decide +kernel
theorem dX12_wordNow_52 : decode cX12_wordNow 52 = .ok (.iconst 0, 1) := by decide +kernel
theorem dX12_wordNow_53 : decode cX12_wordNow 53 = .ok (.istore 4, 2) := by decide +kernel
theorem dX12_wordNow_55 : decode cX12_wordNow 55 = .ok (.iinc 3 1, 3) := by decide +kernel
theorem dX12_wordNow_58 : decode cX12_wordNow 58 = .ok (.iinc 1 1, 3) := by decide +kernel
theorem dX12_wordNow_61 : decode cX12_wordNow 61 = .ok (.goto (-43), 3) := by decide +kernel
theorem dX12_wordNow_64 : decode cX12_wordNow 64 = .ok (.iinc 1 1, 3) := by decide +kernel
theorem dX12_wordNow_67 : decode cX12_wordNow 67 = .ok (.iload 4, 2) := by decide +kernel
theorem dX12_wordNow_69 : decode cX12_wordNow 69 = .ok (.ifCond .eq 18, 3) := by decide +kernel
theorem dX12_wordNow_72 : decode cX12_wordNow 72 = .ok (.iload_n 3, 1) := by decide +kernel
theorem dX12_wordNow_73 : decode cX12_wordNow 73 = .ok (.aload_n 0, 1) := by decide +kernel
theorem dX12_wordNow_74 : decode cX12_wordNow 74 = .ok (.getfield 156, 3) := by decide +kernel
theorem dX12_wordNow_77 : decode cX12_wordNow 77 = .ok (.if_icmp .ne 10, 3) := by decide +kernel
theorem dX12_wordNow_80 : decode cX12_wordNow 80 = .ok (.aload_n 0, 1) := by decide +kernel
theorem dX12_wordNow_81 : decode cX12_wordNow 81 = .ok (.getfield 66, 3) := by decide +kernel
theorem dX12_wordNow_84 : decode cX12_wordNow 84 = .ok (.iload_n 2, 1) := by decide +kernel
theorem dX12_wordNow_85 : decode cX12_wordNow 85 = .ok (.iaload, 1) := by decide +kernel
theorem dX12_wordNow_86 : decode cX12_wordNow 86 = .ok (.ireturn, 1) := by decide +kernel
theorem dX12_wordNow_87 : decode cX12_wordNow 87 = .ok (.iinc 2 1, 3) := by decide +kernel
theorem dX12_wordNow_90 : decode cX12_wordNow 90 = .ok (.goto (-86), 3) := by decide +kernel
theorem dX12_wordNow_93 : decode cX12_wordNow 93 = .ok (.iconst (-1), 1) := by decide +kernel
theorem dX12_wordNow_94 : decode cX12_wordNow 94 = .ok (.ireturn, 1) := by decide +kernel
theorem dX12_next_0 : decode cX12_next 0 = .ok (.aload_n 0, 1) := by decide +kernel
theorem dX12_next_1 : decode cX12_next 1 = .ok (.aload_n 0, 1) := by decide +kernel
theorem dX12_next_2 : decode cX12_next 2 = .ok (.getfield 156, 3) := by decide +kernel
theorem dX12_next_5 : decode cX12_next 5 = .ok (.putfield 153, 3) := by decide +kernel
theorem dX12_next_8 : decode cX12_next 8 = .ok (.aload_n 0, 1) := by decide +kernel
theorem dX12_next_9 : decode cX12_next 9 = .ok (.getfield 153, 3) := by decide +kernel
theorem dX12_next_12 : decode cX12_next 12 = .ok (.aload_n 0, 1) := by decide +kernel
theorem dX12_next_13 : decode cX12_next 13 = .ok (.getfield 150, 3) := by decide +kernel
theorem dX12_next_16 : decode cX12_next 16 = .ok (.if_icmp .ge 44, 3) := by decide +kernel
theorem dX12_next_19 : decode cX12_next 19 = .ok (.aload_n 0, 1) := by decide +kernel
theorem dX12_next_20 : decode cX12_next 20 = .ok (.getfield 41, 3) := by decide +kernel
theorem dX12_next_23 : decode cX12_next 23 = .ok (.aload_n 0, 1) := by decide +kernel
theorem dX12_next_24 : decode cX12_next 24 = .ok (.getfield 153, 3) := by decide +kernel
theorem dX12_next_27 : decode cX12_next 27 = .ok (.baload, 1) := by decide +kernel
theorem dX12_next_28 : decode cX12_next 28 = .ok (.bipush 32, 2) := by decide +kernel
theorem dX12_next_30 : decode cX12_next 30 = .ok (.if_icmp .eq 17, 3) := by decide +kernel
theorem dX12_next_33 : decode cX12_next 33 = .ok (.aload_n 0, 1) := by decide +kernel
theorem dX12_next_34 : decode cX12_next 34 = .ok (.getfield 41, 3) := by decide +kernel
theorem dX12_next_37 : decode cX12_next 37 = .ok (.aload_n 0, 1) := by decide +kernel
theorem dX12_next_38 : decode cX12_next 38 = .ok (.getfield 153, 3) := by decide +kernel
theorem dX12_next_41 : decode cX12_next 41 = .ok (.baload, 1) := by decide +kernel
theorem dX12_next_42 : decode cX12_next 42 = .ok (.bipush 10, 2) := by decide +kernel
theorem dX12_next_44 : decode cX12_next 44 = .ok (.if_icmp .ne 16, 3) := by decide +kernel
theorem dX12_next_47 : decode cX12_next 47 = .ok (.aload_n 0, 1) := by decide +kernel
theorem dX12_next_48 : decode cX12_next 48 = .ok (.dup, 1) := by decide +kernel
theorem dX12_next_49 : decode cX12_next 49 = .ok (.getfield 153, 3) := by decide +kernel
theorem dX12_next_52 : decode cX12_next 52 = .ok (.iconst 1, 1) := by decide +kernel
theorem dX12_next_53 : decode cX12_next 53 = .ok (.iadd, 1) := by decide +kernel
theorem dX12_next_54 : decode cX12_next 54 = .ok (.putfield 153, 3) := by decide +kernel
theorem dX12_next_57 : decode cX12_next 57 = .ok (.goto (-49), 3) := by decide +kernel
theorem dX12_next_60 : decode cX12_next 60 = .ok (.aload_n 0, 1) := by decide +kernel
theorem dX12_next_61 : decode cX12_next 61 = .ok (.aload_n 0, 1) := by decide +kernel
theorem dX12_next_62 : decode cX12_next 62 = .ok (.getfield 153, 3) := by decide +kernel
theorem dX12_next_65 : decode cX12_next 65 = .ok (.putfield 156, 3) := by decide +kernel
theorem dX12_next_68 : decode cX12_next 68 = .ok (.aload_n 0, 1) := by decide +kernel
theorem dX12_next_69 : decode cX12_next 69 = .ok (.getfield 153, 3) := by decide +kernel
theorem dX12_next_72 : decode cX12_next 72 = .ok (.aload_n 0, 1) := by decide +kernel
theorem dX12_next_73 : decode cX12_next 73 = .ok (.getfield 150, 3) := by decide +kernel
theorem dX12_next_76 : decode cX12_next 76 = .ok (.if_icmp .lt 17, 3) := by decide +kernel
theorem dX12_next_79 : decode cX12_next 79 = .ok (.aload_n 0, 1) := by decide +kernel
theorem dX12_next_80 : decode cX12_next 80 = .ok (.aload_n 0, 1) := by decide +kernel
theorem dX12_next_81 : decode cX12_next 81 = .ok (.getfield 150, 3) := by decide +kernel
theorem dX12_next_84 : decode cX12_next 84 = .ok (.putfield 153, 3) := by decide +kernel
theorem dX12_next_87 : decode cX12_next 87 = .ok (.aload_n 0, 1) := by decide +kernel
theorem dX12_next_88 : decode cX12_next 88 = .ok (.iconst 4, 1) := by decide +kernel
theorem dX12_next_89 : decode cX12_next 89 = .ok (.putfield 159, 3) := by decide +kernel
theorem dX12_next_92 : decode cX12_next 92 = .ok (.return_, 1) := by decide +kernel
theorem dX12_next_93 : decode cX12_next 93 = .ok (.aload_n 0, 1) := by decide +kernel
theorem dX12_next_94 : decode cX12_next 94 = .ok (.getfield 41, 3) := by decide +kernel
theorem dX12_next_97 : decode cX12_next 97 = .ok (.aload_n 0, 1) := by decide +kernel
theorem dX12_next_98 : decode cX12_next 98 = .ok (.getfield 153, 3) := by decide +kernel
theorem dX12_next_101 : decode cX12_next 101 = .ok (.baload, 1) := by decide +kernel
theorem dX12_next_102 : decode cX12_next 102 = .ok (.istore_n 1, 1) := by decide +kernel
theorem dX12_next_103 : decode cX12_next 103 = .ok (.iload_n 1, 1) := by decide +kernel
theorem dX12_next_104 : decode cX12_next 104 = .ok (.invokestatic 162, 3) := by decide +kernel
theorem dX12_next_107 : decode cX12_next 107 = .ok (.ifCond .eq 69, 3) := by decide +kernel
theorem dX12_next_110 : decode cX12_next 110 = .ok (.aload_n 0, 1) := by decide +kernel
theorem dX12_next_111 : decode cX12_next 111 = .ok (.getfield 156, 3) := by decide +kernel
theorem dX12_next_114 : decode cX12_next 114 = .ok (.aload_n 0, 1) := by decide +kernel
theorem dX12_next_115 : decode cX12_next 115 = .ok (.getfield 150, 3) := by decide +kernel
theorem dX12_next_118 : decode cX12_next 118 = .ok (.if_icmp .ge 31, 3) := by decide +kernel
theorem dX12_next_121 : decode cX12_next 121 = .ok (.aload_n 0, 1) := by decide +kernel
theorem dX12_next_122 : decode cX12_next 122 = .ok (.getfield 41, 3) := by decide +kernel
theorem dX12_next_125 : decode cX12_next 125 = .ok (.aload_n 0, 1) := by decide +kernel
theorem dX12_next_126 : decode cX12_next 126 = .ok (.getfield 156, 3) := by decide +kernel
theorem dX12_next_129 : decode cX12_next 129 = .ok (.baload, 1) := by decide +kernel
theorem dX12_next_130 : decode cX12_next 130 = .ok (.invokestatic 162, 3) := by decide +kernel
theorem dX12_next_133 : decode cX12_next 133 = .ok (.ifCond .eq 16, 3) := by decide +kernel
theorem dX12_next_136 : decode cX12_next 136 = .ok (.aload_n 0, 1) := by decide +kernel
theorem dX12_next_137 : decode cX12_next 137 = .ok (.dup, 1) := by decide +kernel
theorem dX12_next_138 : decode cX12_next 138 = .ok (.getfield 156, 3) := by decide +kernel
theorem dX12_next_141 : decode cX12_next 141 = .ok (.iconst 1, 1) := by decide +kernel
theorem dX12_next_142 : decode cX12_next 142 = .ok (.iadd, 1) := by decide +kernel
theorem dX12_next_143 : decode cX12_next 143 = .ok (.putfield 156, 3) := by decide +kernel
theorem dX12_next_146 : decode cX12_next 146 = .ok (.goto (-36), 3) := by decide +kernel
theorem dX12_next_149 : decode cX12_next 149 = .ok (.aload_n 0, 1) := by decide +kernel
theorem dX12_next_150 : decode cX12_next 150 = .ok (.aload_n 0, 1) := by decide +kernel
theorem dX12_next_151 : decode cX12_next 151 = .ok (.invokevirtual 165, 3) := by decide +kernel
theorem dX12_next_154 : decode cX12_next 154 = .ok (.putfield 169, 3) := by decide +kernel
theorem dX12_next_157 : decode cX12_next 157 = .ok (.aload_n 0, 1) := by decide +kernel
theorem dX12_next_158 : decode cX12_next 158 = .ok (.aload_n 0, 1) := by decide +kernel
theorem dX12_next_159 : decode cX12_next 159 = .ok (.getfield 169, 3) := by decide +kernel
theorem dX12_next_162 : decode cX12_next 162 = .ok (.ifCond .ge 7, 3) := by decide +kernel
theorem dX12_next_165 : decode cX12_next 165 = .ok (.iconst 5, 1) := by decide +kernel
theorem dX12_next_166 : decode cX12_next 166 = .ok (.goto 4, 3) := by decide +kernel
theorem dX12_next_169 : decode cX12_next 169 = .ok (.iconst 1, 1) := by decide +kernel
theorem dX12_next_170 : decode cX12_next 170 = .ok (.putfield 159, 3) := by decide +kernel
theorem dX12_next_173 : decode cX12_next 173 = .ok (.goto 188, 3) := by decide +kernel
theorem dX12_next_176 : decode cX12_next 176 = .ok (.iload_n 1, 1) := by decide +kernel
theorem dX12_next_177 : decode cX12_next 177 = .ok (.invokestatic 172, 3) := by decide +kernel
theorem dX12_next_180 : decode cX12_next 180 = .ok (.ifCond .eq 109, 3) := by decide +kernel
theorem dX12_next_183 : decode cX12_next 183 = .ok (.aload_n 0, 1) := by decide +kernel
theorem dX12_next_184 : decode cX12_next 184 = .ok (.iconst 0, 1) := by decide +kernel
theorem dX12_next_185 : decode cX12_next 185 = .ok (.putfield 169, 3) := by decide +kernel
theorem dX12_next_188 : decode cX12_next 188 = .ok (.aload_n 0, 1) := by decide +kernel
theorem dX12_next_189 : decode cX12_next 189 = .ok (.getfield 156, 3) := by decide +kernel
theorem dX12_next_192 : decode cX12_next 192 = .ok (.aload_n 0, 1) := by decide +kernel
theorem dX12_next_193 : decode cX12_next 193 = .ok (.getfield 150, 3) := by decide +kernel
theorem dX12_next_196 : decode cX12_next 196 = .ok (.if_icmp .ge 68, 3) := by decide +kernel
theorem dX12_next_199 : decode cX12_next 199 = .ok (.aload_n 0, 1) := by decide +kernel
theorem dX12_next_200 : decode cX12_next 200 = .ok (.getfield 41, 3) := by decide +kernel
theorem dX12_next_203 : decode cX12_next 203 = .ok (.aload_n 0, 1) := by decide +kernel
theorem dX12_next_204 : decode cX12_next 204 = .ok (.getfield 156, 3) := by decide +kernel
theorem dX12_next_207 : decode cX12_next 207 = .ok (.baload, 1) := by decide +kernel
theorem dX12_next_208 : decode cX12_next 208 = .ok (.invokestatic 172, 3) := by decide +kernel
theorem dX12_next_211 : decode cX12_next 211 = .ok (.ifCond .eq 53, 3) := by decide +kernel
theorem dX12_next_214 : decode cX12_next 214 = .ok (.aload_n 0, 1) := by decide +kernel
theorem dX12_next_215 : decode cX12_next 215 = .ok (.getfield 156, 3) := by decide +kernel
theorem dX12_next_218 : decode cX12_next 218 = .ok (.aload_n 0, 1) := by decide +kernel
theorem dX12_next_219 : decode cX12_next 219 = .ok (.getfield 153, 3) := by decide +kernel
theorem dX12_next_222 : decode cX12_next 222 = .ok (.isub, 1) := by decide +kernel
theorem dX12_next_223 : decode cX12_next 223 = .ok (.iconst 4, 1) := by decide +kernel
theorem dX12_next_224 : decode cX12_next 224 = .ok (.if_icmp .ge 27, 3) := by decide +kernel
theorem dX12_next_227 : decode cX12_next 227 = .ok (.aload_n 0, 1) := by decide +kernel
theorem dX12_next_228 : decode cX12_next 228 = .ok (.bipush 10, 2) := by decide +kernel
theorem dX12_next_230 : decode cX12_next 230 = .ok (.aload_n 0, 1) := by decide +kernel
theorem dX12_next_231 : decode cX12_next 231 = .ok (.getfield 169, 3) := by decide +kernel
theorem dX12_next_234 : decode cX12_next 234 = .ok (.imul, 1) := by decide +kernel
theorem dX12_next_235 : decode cX12_next 235 = .ok (.aload_n 0, 1) := by decide +kernel
theorem dX12_next_236 : decode cX12_next 236 = .ok (.getfield 41, 3) := by decide +kernel
theorem dX12_next_239 : decode cX12_next 239 = .ok (.aload_n 0, 1) := by decide +kernel
theorem dX12_next_240 : decode cX12_next 240 = .ok (.getfield 156, 3) := by decide +kernel
theorem dX12_next_243 : decode cX12_next 243 = .ok (.baload, 1) := by decide +kernel
theorem dX12_next_244 : decode cX12_next 244 = .ok (.iadd, 1) := by decide +kernel
theorem dX12_next_245 : decode cX12_next 245 = .ok (.bipush 48, 2) := by decide +kernel
theorem dX12_next_247 : decode cX12_next 247 = .ok (.isub, 1) := by decide +kernel
theorem dX12_next_248 : decode cX12_next 248 = .ok (.putfield 169, 3) := by decide +kernel
theorem dX12_next_251 : decode cX12_next 251 = .ok (.aload_n 0, 1) := by decide +kernel
theorem dX12_next_252 : decode cX12_next 252 = .ok (.dup, 1) := by decide +kernel
theorem dX12_next_253 : decode cX12_next 253 = .ok (.getfield 156, 3) := by decide +kernel
theorem dX12_next_256 : decode cX12_next 256 = .ok (.iconst 1, 1) := by decide +kernel
theorem dX12_next_257 : decode cX12_next 257 = .ok (.iadd, 1) := by decide +kernel
theorem dX12_next_258 : decode cX12_next 258 = .ok (.putfield 156, 3) := by decide +kernel
theorem dX12_next_261 : decode cX12_next 261 = .ok (.goto (-73), 3) := by decide +kernel
theorem dX12_next_264 : decode cX12_next 264 = .ok (.aload_n 0, 1) := by decide +kernel
theorem dX12_next_265 : decode cX12_next 265 = .ok (.aload_n 0, 1) := by decide +kernel
theorem dX12_next_266 : decode cX12_next 266 = .ok (.getfield 156, 3) := by decide +kernel
theorem dX12_next_269 : decode cX12_next 269 = .ok (.aload_n 0, 1) := by decide +kernel
theorem dX12_next_270 : decode cX12_next 270 = .ok (.getfield 153, 3) := by decide +kernel
theorem dX12_next_273 : decode cX12_next 273 = .ok (.isub, 1) := by decide +kernel
theorem dX12_next_274 : decode cX12_next 274 = .ok (.iconst 4, 1) := by decide +kernel
theorem dX12_next_275 : decode cX12_next 275 = .ok (.if_icmp .le 7, 3) := by decide +kernel
theorem dX12_next_278 : decode cX12_next 278 = .ok (.iconst 5, 1) := by decide +kernel
theorem dX12_next_279 : decode cX12_next 279 = .ok (.goto 4, 3) := by decide +kernel
theorem dX12_next_282 : decode cX12_next 282 = .ok (.iconst 2, 1) := by decide +kernel
theorem dX12_next_283 : decode cX12_next 283 = .ok (.putfield 159, 3) := by decide +kernel
theorem dX12_next_286 : decode cX12_next 286 = .ok (.goto 75, 3) := by decide +kernel
theorem dX12_next_289 : decode cX12_next 289 = .ok (.aload_n 0, 1) := by decide +kernel
theorem dX12_next_290 : decode cX12_next 290 = .ok (.dup, 1) := by decide +kernel
theorem dX12_next_291 : decode cX12_next 291 = .ok (.getfield 156, 3) := by decide +kernel
theorem dX12_next_294 : decode cX12_next 294 = .ok (.iconst 1, 1) := by decide +kernel
theorem dX12_next_295 : decode cX12_next 295 = .ok (.iadd, 1) := by decide +kernel
theorem dX12_next_296 : decode cX12_next 296 = .ok (.putfield 156, 3) := by decide +kernel
theorem dX12_next_299 : decode cX12_next 299 = .ok (.aload_n 0, 1) := by decide +kernel
theorem dX12_next_300 : decode cX12_next 300 = .ok (.iload_n 1, 1) := by decide +kernel
theorem dX12_next_301 : decode cX12_next 301 = .ok (.putfield 169, 3) := by decide +kernel
theorem dX12_next_304 : decode cX12_next 304 = .ok (.aload_n 0, 1) := by decide +kernel
theorem dX12_next_305 : decode cX12_next 305 = .ok (.iload_n 1, 1) := by decide +kernel
theorem dX12_next_306 : decode cX12_next 306 = .ok (.bipush 40, 2) := by decide +kernel
theorem dX12_next_308 : decode cX12_next 308 = .ok (.if_icmp .eq 45, 3) := by decide +kernel
theorem dX12_next_311 : decode cX12_next 311 = .ok (.iload_n 1, 1) := by decide +kernel
theorem dX12_next_312 : decode cX12_next 312 = .ok (.bipush 41, 2) := by decide +kernel
theorem dX12_next_314 : decode cX12_next 314 = .ok (.if_icmp .eq 39, 3) := by decide +kernel
theorem dX12_next_317 : decode cX12_next 317 = .ok (.iload_n 1, 1) := by decide +kernel
theorem dX12_next_318 : decode cX12_next 318 = .ok (.bipush 59, 2) := by decide +kernel
theorem dX12_next_320 : decode cX12_next 320 = .ok (.if_icmp .eq 33, 3) := by decide +kernel
theorem dX12_next_323 : decode cX12_next 323 = .ok (.iload_n 1, 1) := by decide +kernel
theorem dX12_next_324 : decode cX12_next 324 = .ok (.bipush 43, 2) := by decide +kernel
theorem dX12_next_326 : decode cX12_next 326 = .ok (.if_icmp .eq 27, 3) := by decide +kernel
theorem dX12_next_329 : decode cX12_next 329 = .ok (.iload_n 1, 1) := by decide +kernel
theorem dX12_next_330 : decode cX12_next 330 = .ok (.bipush 45, 2) := by decide +kernel
theorem dX12_next_332 : decode cX12_next 332 = .ok (.if_icmp .eq 21, 3) := by decide +kernel
theorem dX12_next_335 : decode cX12_next 335 = .ok (.iload_n 1, 1) := by decide +kernel
theorem dX12_next_336 : decode cX12_next 336 = .ok (.bipush 42, 2) := by decide +kernel
theorem dX12_next_338 : decode cX12_next 338 = .ok (.if_icmp .eq 15, 3) := by decide +kernel
theorem dX12_next_341 : decode cX12_next 341 = .ok (.iload_n 1, 1) := by decide +kernel
theorem dX12_next_342 : decode cX12_next 342 = .ok (.bipush 60, 2) := by decide +kernel
theorem dX12_next_344 : decode cX12_next 344 = .ok (.if_icmp .eq 9, 3) := by decide +kernel
theorem dX12_next_347 : decode cX12_next 347 = .ok (.iload_n 1, 1) := by decide +kernel
theorem dX12_next_348 : decode cX12_next 348 = .ok (.bipush 61, 2) := by decide +kernel
theorem dX12_next_350 : decode cX12_next 350 = .ok (.if_icmp .ne 7, 3) := by decide +kernel
theorem dX12_next_353 : decode cX12_next 353 = .ok (.iconst 3, 1) := by decide +kernel
theorem dX12_next_354 : decode cX12_next 354 = .ok (.goto 4, 3) := by decide +kernel
theorem dX12_next_357 : decode cX12_next 357 = .ok (.iconst 5, 1) := by decide +kernel
theorem dX12_next_358 : decode cX12_next 358 = .ok (.putfield 159, 3) := by decide +kernel
theorem dX12_next_361 : decode cX12_next 361 = .ok (.return_, 1) := by decide +kernel
theorem dX12_faulty_0 : decode cX12_faulty 0 = .ok (.aload_n 0, 1) := by decide +kernel
theorem dX12_faulty_1 : decode cX12_faulty 1 = .ok (.getfield 175, 3) := by decide +kernel
theorem dX12_faulty_4 : decode cX12_faulty 4 = .ok (.ifCond .ge 11, 3) := by decide +kernel
theorem dX12_faulty_7 : decode cX12_faulty 7 = .ok (.aload_n 0, 1) := by decide +kernel
theorem dX12_faulty_8 : decode cX12_faulty 8 = .ok (.aload_n 0, 1) := by decide +kernel
theorem dX12_faulty_9 : decode cX12_faulty 9 = .ok (.getfield 153, 3) := by decide +kernel
theorem dX12_faulty_12 : decode cX12_faulty 12 = .ok (.putfield 175, 3) := by decide +kernel
theorem dX12_faulty_15 : decode cX12_faulty 15 = .ok (.return_, 1) := by decide +kernel
theorem dX12_isSign_0 : decode cX12_isSign 0 = .ok (.aload_n 0, 1) := by decide +kernel
theorem dX12_isSign_1 : decode cX12_isSign 1 = .ok (.getfield 175, 3) := by decide +kernel
theorem dX12_isSign_4 : decode cX12_isSign 4 = .ok (.ifCond .ge 23, 3) := by decide +kernel
theorem dX12_isSign_7 : decode cX12_isSign 7 = .ok (.aload_n 0, 1) := by decide +kernel
theorem dX12_isSign_8 : decode cX12_isSign 8 = .ok (.getfield 159, 3) := by decide +kernel
theorem dX12_isSign_11 : decode cX12_isSign 11 = .ok (.iconst 3, 1) := by decide +kernel
theorem dX12_isSign_12 : decode cX12_isSign 12 = .ok (.if_icmp .ne 15, 3) := by decide +kernel
theorem dX12_isSign_15 : decode cX12_isSign 15 = .ok (.aload_n 0, 1) := by decide +kernel
theorem dX12_isSign_16 : decode cX12_isSign 16 = .ok (.getfield 169, 3) := by decide +kernel
theorem dX12_isSign_19 : decode cX12_isSign 19 = .ok (.iload_n 1, 1) := by decide +kernel
theorem dX12_isSign_20 : decode cX12_isSign 20 = .ok (.if_icmp .ne 7, 3) := by decide +kernel
theorem dX12_isSign_23 : decode cX12_isSign 23 = .ok (.iconst 1, 1) := by decide +kernel
theorem dX12_isSign_24 : decode cX12_isSign 24 = .ok (.goto 4, 3) := by decide +kernel
theorem dX12_isSign_27 : decode cX12_isSign 27 = .ok (.iconst 0, 1) := by decide +kernel
theorem dX12_isSign_28 : decode cX12_isSign 28 = .ok (.ireturn, 1) := by decide +kernel
theorem dX12_isKey_0 : decode cX12_isKey 0 = .ok (.aload_n 0, 1) := by decide +kernel
theorem dX12_isKey_1 : decode cX12_isKey 1 = .ok (.getfield 175, 3) := by decide +kernel
theorem dX12_isKey_4 : decode cX12_isKey 4 = .ok (.ifCond .ge 23, 3) := by decide +kernel
theorem dX12_isKey_7 : decode cX12_isKey 7 = .ok (.aload_n 0, 1) := by decide +kernel
theorem dX12_isKey_8 : decode cX12_isKey 8 = .ok (.getfield 159, 3) := by decide +kernel
theorem dX12_isKey_11 : decode cX12_isKey 11 = .ok (.iconst 1, 1) := by decide +kernel
theorem dX12_isKey_12 : decode cX12_isKey 12 = .ok (.if_icmp .ne 15, 3) := by decide +kernel
theorem dX12_isKey_15 : decode cX12_isKey 15 = .ok (.aload_n 0, 1) := by decide +kernel
theorem dX12_isKey_16 : decode cX12_isKey 16 = .ok (.getfield 169, 3) := by decide +kernel
theorem dX12_isKey_19 : decode cX12_isKey 19 = .ok (.iload_n 1, 1) := by decide +kernel
theorem dX12_isKey_20 : decode cX12_isKey 20 = .ok (.if_icmp .ne 7, 3) := by decide +kernel
theorem dX12_isKey_23 : decode cX12_isKey 23 = .ok (.iconst 1, 1) := by decide +kernel
theorem dX12_isKey_24 : decode cX12_isKey 24 = .ok (.goto 4, 3) := by decide +kernel
theorem dX12_isKey_27 : decode cX12_isKey 27 = .ok (.iconst 0, 1) := by decide +kernel
theorem dX12_isKey_28 : decode cX12_isKey 28 = .ok (.ireturn, 1) := by decide +kernel
theorem dX12_addStep_0 : decode cX12_addStep 0 = .ok (.aload_n 0, 1) := by decide +kernel
theorem dX12_addStep_1 : decode cX12_addStep 1 = .ok (.getfield 48, 3) := by decide +kernel
theorem dX12_addStep_4 : decode cX12_addStep 4 = .ok (.sipush 1020, 3) := by decide +kernel
theorem dX12_addStep_7 : decode cX12_addStep 7 = .ok (.aload_n 0, 1) := by decide +kernel
theorem dX12_addStep_8 : decode cX12_addStep 8 = .ok (.getfield 178, 3) := by decide +kernel
theorem dX12_addStep_11 : decode cX12_addStep 11 = .ok (.iadd, 1) := by decide +kernel
theorem dX12_addStep_12 : decode cX12_addStep 12 = .ok (.iload_n 1, 1) := by decide +kernel
theorem dX12_addStep_13 : decode cX12_addStep 13 = .ok (.iastore, 1) := by decide +kernel
theorem dX12_addStep_14 : decode cX12_addStep 14 = .ok (.aload_n 0, 1) := by decide +kernel
theorem dX12_addStep_15 : decode cX12_addStep 15 = .ok (.getfield 51, 3) := by decide +kernel
theorem dX12_addStep_18 : decode cX12_addStep 18 = .ok (.sipush 1020, 3) := by decide +kernel
theorem dX12_addStep_21 : decode cX12_addStep 21 = .ok (.aload_n 0, 1) := by decide +kernel
theorem dX12_addStep_22 : decode cX12_addStep 22 = .ok (.getfield 178, 3) := by decide +kernel
theorem dX12_addStep_25 : decode cX12_addStep 25 = .ok (.iadd, 1) := by decide +kernel
theorem dX12_addStep_26 : decode cX12_addStep 26 = .ok (.iload_n 2, 1) := by decide +kernel
theorem dX12_addStep_27 : decode cX12_addStep 27 = .ok (.iastore, 1) := by decide +kernel
theorem dX12_addStep_28 : decode cX12_addStep 28 = .ok (.aload_n 0, 1) := by decide +kernel
theorem dX12_addStep_29 : decode cX12_addStep 29 = .ok (.dup, 1) := by decide +kernel
theorem dX12_addStep_30 : decode cX12_addStep 30 = .ok (.getfield 178, 3) := by decide +kernel
theorem dX12_addStep_33 : decode cX12_addStep 33 = .ok (.iconst 1, 1) := by decide +kernel
theorem dX12_addStep_34 : decode cX12_addStep 34 = .ok (.iadd, 1) := by decide +kernel
theorem dX12_addStep_35 : decode cX12_addStep 35 = .ok (.putfield 178, 3) := by decide +kernel
theorem dX12_addStep_38 : decode cX12_addStep 38 = .ok (.return_, 1) := by decide +kernel
theorem dX12_opens_0 : decode cX12_opens 0 = .ok (.aload_n 0, 1) := by decide +kernel
theorem dX12_opens_1 : decode cX12_opens 1 = .ok (.getfield 181, 3) := by decide +kernel
theorem dX12_opens_4 : decode cX12_opens 4 = .ok (.iconst 5, 1) := by decide +kernel
theorem dX12_opens_5 : decode cX12_opens 5 = .ok (.if_icmp .ne 9, 3) := by decide +kernel
theorem dX12_opens_8 : decode cX12_opens 8 = .ok (.aload_n 0, 1) := by decide +kernel
theorem dX12_opens_9 : decode cX12_opens 9 = .ok (.invokevirtual 184, 3) := by decide +kernel
theorem dX12_opens_12 : decode cX12_opens 12 = .ok (.iconst 0, 1) := by decide +kernel
theorem dX12_opens_13 : decode cX12_opens 13 = .ok (.ireturn, 1) := by decide +kernel
theorem dX12_opens_14 : decode cX12_opens 14 = .ok (.aload_n 0, 1) := by decide +kernel
theorem dX12_opens_15 : decode cX12_opens 15 = .ok (.dup, 1) := by decide +kernel
theorem dX12_opens_16 : decode cX12_opens 16 = .ok (.getfield 181, 3) := by decide +kernel
theorem dX12_opens_19 : decode cX12_opens 19 = .ok (.iconst 1, 1) := by decide +kernel
theorem dX12_opens_20 : decode cX12_opens 20 = .ok (.iadd, 1) := by decide +kernel
theorem dX12_opens_21 : decode cX12_opens 21 = .ok (.putfield 181, 3) := by decide +kernel
theorem dX12_opens_24 : decode cX12_opens 24 = .ok (.aload_n 0, 1) := by decide +kernel
theorem dX12_opens_25 : decode cX12_opens 25 = .ok (.invokevirtual 187, 3) := by decide +kernel
theorem dX12_opens_28 : decode cX12_opens 28 = .ok (.iconst 1, 1) := by decide +kernel
theorem dX12_opens_29 : decode cX12_opens 29 = .ok (.ireturn, 1) := by decide +kernel
theorem dX12_either_0 : decode cX12_either 0 = .ok (.aload_n 0, 1) := by decide +kernel
theorem dX12_either_1 : decode cX12_either 1 = .ok (.invokevirtual 190, 3) := by decide +kernel
theorem dX12_either_4 : decode cX12_either 4 = .ok (.aload_n 0, 1) := by decide +kernel
theorem dX12_either_5 : decode cX12_either 5 = .ok (.bipush 13, 2) := by decide +kernel
theorem dX12_either_7 : decode cX12_either 7 = .ok (.invokevirtual 193, 3) := by decide +kernel
theorem dX12_either_10 : decode cX12_either 10 = .ok (.ifCond .eq 20, 3) := by decide +kernel
theorem dX12_either_13 : decode cX12_either 13 = .ok (.aload_n 0, 1) := by decide +kernel
theorem dX12_either_14 : decode cX12_either 14 = .ok (.invokevirtual 187, 3) := by decide +kernel
theorem dX12_either_17 : decode cX12_either 17 = .ok (.aload_n 0, 1) := by decide +kernel
theorem dX12_either_18 : decode cX12_either 18 = .ok (.invokevirtual 190, 3) := by decide +kernel
theorem dX12_either_21 : decode cX12_either 21 = .ok (.aload_n 0, 1) := by decide +kernel
theorem dX12_either_22 : decode cX12_either 22 = .ok (.iconst 5, 1) := by decide +kernel
theorem dX12_either_23 : decode cX12_either 23 = .ok (.iconst 0, 1) := by decide +kernel
theorem dX12_either_24 : decode cX12_either 24 = .ok (.invokevirtual 196, 3) := by decide +kernel
theorem dX12_either_27 : decode cX12_either 27 = .ok (.goto (-23), 3) := by decide +kernel
theorem dX12_either_30 : decode cX12_either 30 = .ok (.return_, 1) := by decide +kernel
theorem dX12_all_0 : decode cX12_all 0 = .ok (.aload_n 0, 1) := by decide +kernel
theorem dX12_all_1 : decode cX12_all 1 = .ok (.invokevirtual 200, 3) := by decide +kernel
theorem dX12_all_4 : decode cX12_all 4 = .ok (.aload_n 0, 1) := by decide +kernel
theorem dX12_all_5 : decode cX12_all 5 = .ok (.bipush 14, 2) := by decide +kernel
theorem dX12_all_7 : decode cX12_all 7 = .ok (.invokevirtual 193, 3) := by decide +kernel
theorem dX12_all_10 : decode cX12_all 10 = .ok (.ifCond .eq 21, 3) := by decide +kernel
theorem dX12_all_13 : decode cX12_all 13 = .ok (.aload_n 0, 1) := by decide +kernel
theorem dX12_all_14 : decode cX12_all 14 = .ok (.invokevirtual 187, 3) := by decide +kernel
theorem dX12_all_17 : decode cX12_all 17 = .ok (.aload_n 0, 1) := by decide +kernel
theorem dX12_all_18 : decode cX12_all 18 = .ok (.invokevirtual 200, 3) := by decide +kernel
theorem dX12_all_21 : decode cX12_all 21 = .ok (.aload_n 0, 1) := by decide +kernel
theorem dX12_all_22 : decode cX12_all 22 = .ok (.bipush 6, 2) := by decide +kernel
theorem dX12_all_24 : decode cX12_all 24 = .ok (.iconst 0, 1) := by decide +kernel
theorem dX12_all_25 : decode cX12_all 25 = .ok (.invokevirtual 196, 3) := by decide +kernel
theorem dX12_all_28 : decode cX12_all 28 = .ok (.goto (-24), 3) := by decide +kernel
theorem dX12_all_31 : decode cX12_all 31 = .ok (.return_, 1) := by decide +kernel
theorem dX12_denied_0 : decode cX12_denied 0 = .ok (.aload_n 0, 1) := by decide +kernel
theorem dX12_denied_1 : decode cX12_denied 1 = .ok (.bipush 15, 2) := by decide +kernel
theorem dX12_denied_3 : decode cX12_denied 3 = .ok (.invokevirtual 193, 3) := by decide +kernel
theorem dX12_denied_6 : decode cX12_denied 6 = .ok (.ifCond .eq 32, 3) := by decide +kernel
theorem dX12_denied_9 : decode cX12_denied 9 = .ok (.aload_n 0, 1) := by decide +kernel
theorem dX12_denied_10 : decode cX12_denied 10 = .ok (.invokevirtual 203, 3) := by decide +kernel
theorem dX12_denied_13 : decode cX12_denied 13 = .ok (.ifCond .ne 4, 3) := by decide +kernel
theorem dX12_denied_16 : decode cX12_denied 16 = .ok (.return_, 1) := by decide +kernel
theorem dX12_denied_17 : decode cX12_denied 17 = .ok (.aload_n 0, 1) := by decide +kernel
theorem dX12_denied_18 : decode cX12_denied 18 = .ok (.invokevirtual 200, 3) := by decide +kernel
theorem dX12_denied_21 : decode cX12_denied 21 = .ok (.aload_n 0, 1) := by decide +kernel
theorem dX12_denied_22 : decode cX12_denied 22 = .ok (.dup, 1) := by decide +kernel
theorem dX12_denied_23 : decode cX12_denied 23 = .ok (.getfield 181, 3) := by decide +kernel
theorem dX12_denied_26 : decode cX12_denied 26 = .ok (.iconst 1, 1) := by decide +kernel
theorem dX12_denied_27 : decode cX12_denied 27 = .ok (.isub, 1) := by decide +kernel
theorem dX12_denied_28 : decode cX12_denied 28 = .ok (.putfield 181, 3) := by decide +kernel
theorem dX12_denied_31 : decode cX12_denied 31 = .ok (.aload_n 0, 1) := by decide +kernel
theorem dX12_denied_32 : decode cX12_denied 32 = .ok (.iconst 3, 1) := by decide +kernel
theorem dX12_denied_33 : decode cX12_denied 33 = .ok (.iconst 0, 1) := by decide +kernel
theorem dX12_denied_34 : decode cX12_denied 34 = .ok (.invokevirtual 196, 3) := by decide +kernel
theorem dX12_denied_37 : decode cX12_denied 37 = .ok (.return_, 1) := by decide +kernel
theorem dX12_denied_38 : decode cX12_denied 38 = .ok (.aload_n 0, 1) := by decide +kernel
theorem dX12_denied_39 : decode cX12_denied 39 = .ok (.invokevirtual 207, 3) := by decide +kernel
theorem dX12_denied_42 : decode cX12_denied 42 = .ok (.aload_n 0, 1) := by decide +kernel
theorem dX12_denied_43 : decode cX12_denied 43 = .ok (.bipush 60, 2) := by decide +kernel
theorem dX12_denied_45 : decode cX12_denied 45 = .ok (.invokevirtual 210, 3) := by decide +kernel
theorem dX12_denied_48 : decode cX12_denied 48 = .ok (.ifCond .ne 13, 3) := by decide +kernel
theorem dX12_denied_51 : decode cX12_denied 51 = .ok (.aload_n 0, 1) := by decide +kernel
theorem dX12_denied_52 : decode cX12_denied 52 = .ok (.bipush 61, 2) := by decide +kernel
theorem dX12_denied_54 : decode cX12_denied 54 = .ok (.invokevirtual 210, 3) := by decide +kernel
theorem dX12_denied_57 : decode cX12_denied 57 = .ok (.ifCond .ne 4, 3) := by decide +kernel
theorem dX12_denied_60 : decode cX12_denied 60 = .ok (.return_, 1) := by decide +kernel
theorem dX12_denied_61 : decode cX12_denied 61 = .ok (.aload_n 0, 1) := by decide +kernel
theorem dX12_denied_62 : decode cX12_denied 62 = .ok (.getfield 169, 3) := by decide +kernel
theorem dX12_denied_65 : decode cX12_denied 65 = .ok (.istore_n 1, 1) := by decide +kernel
theorem dX12_denied_66 : decode cX12_denied 66 = .ok (.aload_n 0, 1) := by decide +kernel
theorem dX12_denied_67 : decode cX12_denied 67 = .ok (.invokevirtual 187, 3) := by decide +kernel
theorem dX12_denied_70 : decode cX12_denied 70 = .ok (.aload_n 0, 1) := by decide +kernel
theorem dX12_denied_71 : decode cX12_denied 71 = .ok (.invokevirtual 207, 3) := by decide +kernel
theorem dX12_denied_74 : decode cX12_denied 74 = .ok (.aload_n 0, 1) := by decide +kernel
theorem dX12_denied_75 : decode cX12_denied 75 = .ok (.iload_n 1, 1) := by decide +kernel
theorem dX12_denied_76 : decode cX12_denied 76 = .ok (.iconst 0, 1) := by decide +kernel
theorem dX12_denied_77 : decode cX12_denied 77 = .ok (.invokevirtual 196, 3) := by decide +kernel
theorem dX12_denied_80 : decode cX12_denied 80 = .ok (.return_, 1) := by decide +kernel
theorem dX12_sum_0 : decode cX12_sum 0 = .ok (.aload_n 0, 1) := by decide +kernel
theorem dX12_sum_1 : decode cX12_sum 1 = .ok (.invokevirtual 213, 3) := by decide +kernel
theorem dX12_sum_4 : decode cX12_sum 4 = .ok (.aload_n 0, 1) := by decide +kernel
theorem dX12_sum_5 : decode cX12_sum 5 = .ok (.bipush 43, 2) := by decide +kernel
theorem dX12_sum_7 : decode cX12_sum 7 = .ok (.invokevirtual 210, 3) := by decide +kernel
theorem dX12_sum_10 : decode cX12_sum 10 = .ok (.ifCond .ne 12, 3) := by decide +kernel
theorem dX12_sum_13 : decode cX12_sum 13 = .ok (.aload_n 0, 1) := by decide +kernel
theorem dX12_sum_14 : decode cX12_sum 14 = .ok (.bipush 45, 2) := by decide +kernel
theorem dX12_sum_16 : decode cX12_sum 16 = .ok (.invokevirtual 210, 3) := by decide +kernel
theorem dX12_sum_19 : decode cX12_sum 19 = .ok (.ifCond .eq 25, 3) := by decide +kernel
theorem dX12_sum_22 : decode cX12_sum 22 = .ok (.aload_n 0, 1) := by decide +kernel
theorem dX12_sum_23 : decode cX12_sum 23 = .ok (.getfield 169, 3) := by decide +kernel
theorem dX12_sum_26 : decode cX12_sum 26 = .ok (.istore_n 1, 1) := by decide +kernel
theorem dX12_sum_27 : decode cX12_sum 27 = .ok (.aload_n 0, 1) := by decide +kernel
theorem dX12_sum_28 : decode cX12_sum 28 = .ok (.invokevirtual 187, 3) := by decide +kernel
theorem dX12_sum_31 : decode cX12_sum 31 = .ok (.aload_n 0, 1) := by decide +kernel
theorem dX12_sum_32 : decode cX12_sum 32 = .ok (.invokevirtual 213, 3) := by decide +kernel
theorem dX12_sum_35 : decode cX12_sum 35 = .ok (.aload_n 0, 1) := by decide +kernel
theorem dX12_sum_36 : decode cX12_sum 36 = .ok (.iload_n 1, 1) := by decide +kernel
theorem dX12_sum_37 : decode cX12_sum 37 = .ok (.iconst 0, 1) := by decide +kernel
theorem dX12_sum_38 : decode cX12_sum 38 = .ok (.invokevirtual 196, 3) := by decide +kernel
theorem dX12_sum_41 : decode cX12_sum 41 = .ok (.goto (-37), 3) := by decide +kernel
theorem dX12_sum_44 : decode cX12_sum 44 = .ok (.return_, 1) := by decide +kernel
theorem dX12_term_0 : decode cX12_term 0 = .ok (.aload_n 0, 1) := by decide +kernel
theorem dX12_term_1 : decode cX12_term 1 = .ok (.invokevirtual 216, 3) := by decide +kernel
theorem dX12_term_4 : decode cX12_term 4 = .ok (.aload_n 0, 1) := by decide +kernel
theorem dX12_term_5 : decode cX12_term 5 = .ok (.bipush 42, 2) := by decide +kernel
theorem dX12_term_7 : decode cX12_term 7 = .ok (.invokevirtual 210, 3) := by decide +kernel
theorem dX12_term_10 : decode cX12_term 10 = .ok (.ifCond .eq 21, 3) := by decide +kernel
theorem dX12_term_13 : decode cX12_term 13 = .ok (.aload_n 0, 1) := by decide +kernel
theorem dX12_term_14 : decode cX12_term 14 = .ok (.invokevirtual 187, 3) := by decide +kernel
theorem dX12_term_17 : decode cX12_term 17 = .ok (.aload_n 0, 1) := by decide +kernel
theorem dX12_term_18 : decode cX12_term 18 = .ok (.invokevirtual 216, 3) := by decide +kernel
theorem dX12_term_21 : decode cX12_term 21 = .ok (.aload_n 0, 1) := by decide +kernel
theorem dX12_term_22 : decode cX12_term 22 = .ok (.bipush 42, 2) := by decide +kernel
theorem dX12_term_24 : decode cX12_term 24 = .ok (.iconst 0, 1) := by decide +kernel
theorem dX12_term_25 : decode cX12_term 25 = .ok (.invokevirtual 196, 3) := by decide +kernel
theorem dX12_term_28 : decode cX12_term 28 = .ok (.goto (-24), 3) := by decide +kernel
theorem dX12_term_31 : decode cX12_term 31 = .ok (.return_, 1) := by decide +kernel
theorem dX12_one_0 : decode cX12_one 0 = .ok (.aload_n 0, 1) := by decide +kernel
theorem dX12_one_1 : decode cX12_one 1 = .ok (.getfield 175, 3) := by decide +kernel
theorem dX12_one_4 : decode cX12_one 4 = .ok (.ifCond .lt 4, 3) := by decide +kernel
theorem dX12_one_7 : decode cX12_one 7 = .ok (.return_, 1) := by decide +kernel
theorem dX12_one_8 : decode cX12_one 8 = .ok (.aload_n 0, 1) := by decide +kernel
theorem dX12_one_9 : decode cX12_one 9 = .ok (.getfield 159, 3) := by decide +kernel
theorem dX12_one_12 : decode cX12_one 12 = .ok (.iconst 2, 1) := by decide +kernel
theorem dX12_one_13 : decode cX12_one 13 = .ok (.if_icmp .ne 19, 3) := by decide +kernel
theorem dX12_one_16 : decode cX12_one 16 = .ok (.aload_n 0, 1) := by decide +kernel
theorem dX12_one_17 : decode cX12_one 17 = .ok (.iconst 1, 1) := by decide +kernel
theorem dX12_one_18 : decode cX12_one 18 = .ok (.aload_n 0, 1) := by decide +kernel
theorem dX12_one_19 : decode cX12_one 19 = .ok (.getfield 169, 3) := by decide +kernel
theorem dX12_one_22 : decode cX12_one 22 = .ok (.invokevirtual 196, 3) := by decide +kernel
theorem dX12_one_25 : decode cX12_one 25 = .ok (.aload_n 0, 1) := by decide +kernel
theorem dX12_one_26 : decode cX12_one 26 = .ok (.invokevirtual 187, 3) := by decide +kernel
theorem dX12_one_29 : decode cX12_one 29 = .ok (.goto 132, 3) := by decide +kernel
theorem dX12_one_32 : decode cX12_one 32 = .ok (.aload_n 0, 1) := by decide +kernel
theorem dX12_one_33 : decode cX12_one 33 = .ok (.getfield 159, 3) := by decide +kernel
theorem dX12_one_36 : decode cX12_one 36 = .ok (.iconst 1, 1) := by decide +kernel
theorem dX12_one_37 : decode cX12_one 37 = .ok (.if_icmp .ne 28, 3) := by decide +kernel
theorem dX12_one_40 : decode cX12_one 40 = .ok (.aload_n 0, 1) := by decide +kernel
theorem dX12_one_41 : decode cX12_one 41 = .ok (.getfield 169, 3) := by decide +kernel
theorem dX12_one_44 : decode cX12_one 44 = .ok (.bipush 6, 2) := by decide +kernel
theorem dX12_one_46 : decode cX12_one 46 = .ok (.if_icmp .ge 19, 3) := by decide +kernel
theorem dX12_one_49 : decode cX12_one 49 = .ok (.aload_n 0, 1) := by decide +kernel
theorem dX12_one_50 : decode cX12_one 50 = .ok (.iconst 2, 1) := by decide +kernel
theorem dX12_one_51 : decode cX12_one 51 = .ok (.aload_n 0, 1) := by decide +kernel
theorem dX12_one_52 : decode cX12_one 52 = .ok (.getfield 169, 3) := by decide +kernel
theorem dX12_one_55 : decode cX12_one 55 = .ok (.invokevirtual 196, 3) := by decide +kernel
theorem dX12_one_58 : decode cX12_one 58 = .ok (.aload_n 0, 1) := by decide +kernel
theorem dX12_one_59 : decode cX12_one 59 = .ok (.invokevirtual 187, 3) := by decide +kernel
theorem dX12_one_62 : decode cX12_one 62 = .ok (.goto 99, 3) := by decide +kernel
theorem dX12_one_65 : decode cX12_one 65 = .ok (.aload_n 0, 1) := by decide +kernel
theorem dX12_one_66 : decode cX12_one 66 = .ok (.bipush 45, 2) := by decide +kernel
theorem dX12_one_68 : decode cX12_one 68 = .ok (.invokevirtual 210, 3) := by decide +kernel
theorem dX12_one_71 : decode cX12_one 71 = .ok (.ifCond .eq 34, 3) := by decide +kernel
theorem dX12_one_74 : decode cX12_one 74 = .ok (.aload_n 0, 1) := by decide +kernel
theorem dX12_one_75 : decode cX12_one 75 = .ok (.invokevirtual 203, 3) := by decide +kernel
theorem dX12_one_78 : decode cX12_one 78 = .ok (.ifCond .ne 4, 3) := by decide +kernel
theorem dX12_one_81 : decode cX12_one 81 = .ok (.return_, 1) := by decide +kernel
theorem dX12_one_82 : decode cX12_one 82 = .ok (.aload_n 0, 1) := by decide +kernel
theorem dX12_one_83 : decode cX12_one 83 = .ok (.invokevirtual 216, 3) := by decide +kernel
theorem dX12_one_86 : decode cX12_one 86 = .ok (.aload_n 0, 1) := by decide +kernel
theorem dX12_one_87 : decode cX12_one 87 = .ok (.dup, 1) := by decide +kernel
theorem dX12_one_88 : decode cX12_one 88 = .ok (.getfield 181, 3) := by decide +kernel
theorem dX12_one_91 : decode cX12_one 91 = .ok (.iconst 1, 1) := by decide +kernel
theorem dX12_one_92 : decode cX12_one 92 = .ok (.isub, 1) := by decide +kernel
theorem dX12_one_93 : decode cX12_one 93 = .ok (.putfield 181, 3) := by decide +kernel
theorem dX12_one_96 : decode cX12_one 96 = .ok (.aload_n 0, 1) := by decide +kernel
theorem dX12_one_97 : decode cX12_one 97 = .ok (.iconst 4, 1) := by decide +kernel
theorem dX12_one_98 : decode cX12_one 98 = .ok (.iconst 0, 1) := by decide +kernel
theorem dX12_one_99 : decode cX12_one 99 = .ok (.invokevirtual 196, 3) := by decide +kernel
theorem dX12_one_102 : decode cX12_one 102 = .ok (.goto 59, 3) := by decide +kernel
theorem dX12_one_105 : decode cX12_one 105 = .ok (.aload_n 0, 1) := by decide +kernel
theorem dX12_one_106 : decode cX12_one 106 = .ok (.bipush 40, 2) := by decide +kernel
theorem dX12_one_108 : decode cX12_one 108 = .ok (.invokevirtual 210, 3) := by decide +kernel
theorem dX12_one_111 : decode cX12_one 111 = .ok (.ifCond .eq 46, 3) := by decide +kernel
theorem dX12_one_114 : decode cX12_one 114 = .ok (.aload_n 0, 1) := by decide +kernel
theorem dX12_one_115 : decode cX12_one 115 = .ok (.invokevirtual 203, 3) := by decide +kernel
theorem dX12_one_118 : decode cX12_one 118 = .ok (.ifCond .ne 4, 3) := by decide +kernel
theorem dX12_one_121 : decode cX12_one 121 = .ok (.return_, 1) := by decide +kernel
theorem dX12_one_122 : decode cX12_one 122 = .ok (.aload_n 0, 1) := by decide +kernel
theorem dX12_one_123 : decode cX12_one 123 = .ok (.invokevirtual 219, 3) := by decide +kernel
theorem dX12_one_126 : decode cX12_one 126 = .ok (.aload_n 0, 1) := by decide +kernel
theorem dX12_one_127 : decode cX12_one 127 = .ok (.bipush 41, 2) := by decide +kernel
theorem dX12_one_129 : decode cX12_one 129 = .ok (.invokevirtual 210, 3) := by decide +kernel
theorem dX12_one_132 : decode cX12_one 132 = .ok (.ifCond .ne 8, 3) := by decide +kernel
theorem dX12_one_135 : decode cX12_one 135 = .ok (.aload_n 0, 1) := by decide +kernel
theorem dX12_one_136 : decode cX12_one 136 = .ok (.invokevirtual 184, 3) := by decide +kernel
theorem dX12_one_139 : decode cX12_one 139 = .ok (.return_, 1) := by decide +kernel
theorem dX12_one_140 : decode cX12_one 140 = .ok (.aload_n 0, 1) := by decide +kernel
theorem dX12_one_141 : decode cX12_one 141 = .ok (.dup, 1) := by decide +kernel
theorem dX12_one_142 : decode cX12_one 142 = .ok (.getfield 181, 3) := by decide +kernel
theorem dX12_one_145 : decode cX12_one 145 = .ok (.iconst 1, 1) := by decide +kernel
theorem dX12_one_146 : decode cX12_one 146 = .ok (.isub, 1) := by decide +kernel
theorem dX12_one_147 : decode cX12_one 147 = .ok (.putfield 181, 3) := by decide +kernel
theorem dX12_one_150 : decode cX12_one 150 = .ok (.aload_n 0, 1) := by decide +kernel
theorem dX12_one_151 : decode cX12_one 151 = .ok (.invokevirtual 187, 3) := by decide +kernel
theorem dX12_one_154 : decode cX12_one 154 = .ok (.goto 7, 3) := by decide +kernel
theorem dX12_one_157 : decode cX12_one 157 = .ok (.aload_n 0, 1) := by decide +kernel
theorem dX12_one_158 : decode cX12_one 158 = .ok (.invokevirtual 184, 3) := by decide +kernel
theorem dX12_one_161 : decode cX12_one 161 = .ok (.return_, 1) := by decide +kernel
theorem dX12_rule_0 : decode cX12_rule 0 = .ok (.aload_n 0, 1) := by decide +kernel
theorem dX12_rule_1 : decode cX12_rule 1 = .ok (.bipush 10, 2) := by decide +kernel
theorem dX12_rule_3 : decode cX12_rule 3 = .ok (.iload_n 1, 1) := by decide +kernel
theorem dX12_rule_4 : decode cX12_rule 4 = .ok (.iadd, 1) := by decide +kernel
theorem dX12_rule_5 : decode cX12_rule 5 = .ok (.invokevirtual 193, 3) := by decide +kernel
theorem dX12_rule_8 : decode cX12_rule 8 = .ok (.ifCond .ne 8, 3) := by decide +kernel
theorem dX12_rule_11 : decode cX12_rule 11 = .ok (.aload_n 0, 1) := by decide +kernel
theorem dX12_rule_12 : decode cX12_rule 12 = .ok (.invokevirtual 184, 3) := by decide +kernel
theorem dX12_rule_15 : decode cX12_rule 15 = .ok (.return_, 1) := by decide +kernel
theorem dX12_rule_16 : decode cX12_rule 16 = .ok (.aload_n 0, 1) := by decide +kernel
theorem dX12_rule_17 : decode cX12_rule 17 = .ok (.invokevirtual 187, 3) := by decide +kernel
theorem dX12_rule_20 : decode cX12_rule 20 = .ok (.aload_n 0, 1) := by decide +kernel
theorem dX12_rule_21 : decode cX12_rule 21 = .ok (.invokevirtual 219, 3) := by decide +kernel
theorem dX12_rule_24 : decode cX12_rule 24 = .ok (.aload_n 0, 1) := by decide +kernel
theorem dX12_rule_25 : decode cX12_rule 25 = .ok (.bipush 59, 2) := by decide +kernel
theorem dX12_rule_27 : decode cX12_rule 27 = .ok (.invokevirtual 210, 3) := by decide +kernel
theorem dX12_rule_30 : decode cX12_rule 30 = .ok (.ifCond .ne 8, 3) := by decide +kernel
theorem dX12_rule_33 : decode cX12_rule 33 = .ok (.aload_n 0, 1) := by decide +kernel
theorem dX12_rule_34 : decode cX12_rule 34 = .ok (.invokevirtual 184, 3) := by decide +kernel
theorem dX12_rule_37 : decode cX12_rule 37 = .ok (.return_, 1) := by decide +kernel
theorem dX12_rule_38 : decode cX12_rule 38 = .ok (.aload_n 0, 1) := by decide +kernel
theorem dX12_rule_39 : decode cX12_rule 39 = .ok (.invokevirtual 187, 3) := by decide +kernel
theorem dX12_rule_42 : decode cX12_rule 42 = .ok (.aload_n 0, 1) := by decide +kernel
theorem dX12_rule_43 : decode cX12_rule 43 = .ok (.getfield 54, 3) := by decide +kernel
theorem dX12_rule_46 : decode cX12_rule 46 = .ok (.bipush 18, 2) := by decide +kernel
theorem dX12_rule_48 : decode cX12_rule 48 = .ok (.iload_n 1, 1) := by decide +kernel
theorem dX12_rule_49 : decode cX12_rule 49 = .ok (.iadd, 1) := by decide +kernel
theorem dX12_rule_50 : decode cX12_rule 50 = .ok (.aload_n 0, 1) := by decide +kernel
theorem dX12_rule_51 : decode cX12_rule 51 = .ok (.getfield 178, 3) := by decide +kernel
theorem dX12_rule_54 : decode cX12_rule 54 = .ok (.iastore, 1) := by decide +kernel
theorem dX12_rule_55 : decode cX12_rule 55 = .ok (.return_, 1) := by decide +kernel
theorem dX12_text_0 : decode cX12_text 0 = .ok (.aload_n 0, 1) := by decide +kernel
theorem dX12_text_1 : decode cX12_text 1 = .ok (.getfield 45, 3) := by decide +kernel
theorem dX12_text_4 : decode cX12_text 4 = .ok (.bipush 6, 2) := by decide +kernel
theorem dX12_text_6 : decode cX12_text 6 = .ok (.if_icmp .ne 6, 3) := by decide +kernel
theorem dX12_text_9 : decode cX12_text 9 = .ok (.bipush (-4), 2) := by decide +kernel
theorem dX12_text_11 : decode cX12_text 11 = .ok (.ireturn, 1) := by decide +kernel
theorem dX12_text_12 : decode cX12_text 12 = .ok (.aload_n 0, 1) := by decide +kernel
theorem dX12_text_13 : decode cX12_text 13 = .ok (.iconst 0, 1) := by decide +kernel
theorem dX12_text_14 : decode cX12_text 14 = .ok (.putfield 156, 3) := by decide +kernel
theorem dX12_text_17 : decode cX12_text 17 = .ok (.aload_n 0, 1) := by decide +kernel
theorem dX12_text_18 : decode cX12_text 18 = .ok (.iconst (-1), 1) := by decide +kernel
theorem dX12_text_19 : decode cX12_text 19 = .ok (.putfield 175, 3) := by decide +kernel
theorem dX12_text_22 : decode cX12_text 22 = .ok (.aload_n 0, 1) := by decide +kernel
theorem dX12_text_23 : decode cX12_text 23 = .ok (.iconst 0, 1) := by decide +kernel
theorem dX12_text_24 : decode cX12_text 24 = .ok (.putfield 181, 3) := by decide +kernel
theorem dX12_text_27 : decode cX12_text 27 = .ok (.aload_n 0, 1) := by decide +kernel
theorem dX12_text_28 : decode cX12_text 28 = .ok (.iconst 0, 1) := by decide +kernel
theorem dX12_text_29 : decode cX12_text 29 = .ok (.putfield 178, 3) := by decide +kernel
theorem dX12_text_32 : decode cX12_text 32 = .ok (.aload_n 0, 1) := by decide +kernel
theorem dX12_text_33 : decode cX12_text 33 = .ok (.invokevirtual 187, 3) := by decide +kernel
theorem dX12_text_36 : decode cX12_text 36 = .ok (.iconst 0, 1) := by decide +kernel
theorem dX12_text_37 : decode cX12_text 37 = .ok (.istore_n 1, 1) := by decide +kernel
theorem dX12_text_38 : decode cX12_text 38 = .ok (.iload_n 1, 1) := by decide +kernel
theorem dX12_text_39 : decode cX12_text 39 = .ok (.iconst 2, 1) := by decide +kernel
theorem dX12_text_40 : decode cX12_text 40 = .ok (.if_icmp .gt 21, 3) := by decide +kernel
theorem dX12_text_43 : decode cX12_text 43 = .ok (.aload_n 0, 1) := by decide +kernel
theorem dX12_text_44 : decode cX12_text 44 = .ok (.getfield 175, 3) := by decide +kernel
theorem dX12_text_47 : decode cX12_text 47 = .ok (.ifCond .ge 14, 3) := by decide +kernel
theorem dX12_text_50 : decode cX12_text 50 = .ok (.aload_n 0, 1) := by decide +kernel
theorem dX12_text_51 : decode cX12_text 51 = .ok (.iload_n 1, 1) := by decide +kernel
theorem dX12_text_52 : decode cX12_text 52 = .ok (.invokevirtual 222, 3) := by decide +kernel
theorem dX12_text_55 : decode cX12_text 55 = .ok (.iinc 1 1, 3) := by decide +kernel
theorem dX12_text_58 : decode cX12_text 58 = .ok (.goto (-20), 3) := by decide +kernel
theorem dX12_text_61 : decode cX12_text 61 = .ok (.aload_n 0, 1) := by decide +kernel
theorem dX12_text_62 : decode cX12_text 62 = .ok (.getfield 175, 3) := by decide +kernel
theorem dX12_text_65 : decode cX12_text 65 = .ok (.ifCond .ge 15, 3) := by decide +kernel
theorem dX12_text_68 : decode cX12_text 68 = .ok (.aload_n 0, 1) := by decide +kernel
theorem dX12_text_69 : decode cX12_text 69 = .ok (.getfield 159, 3) := by decide +kernel
theorem dX12_text_72 : decode cX12_text 72 = .ok (.iconst 4, 1) := by decide +kernel
theorem dX12_text_73 : decode cX12_text 73 = .ok (.if_icmp .eq 7, 3) := by decide +kernel
theorem dX12_text_76 : decode cX12_text 76 = .ok (.aload_n 0, 1) := by decide +kernel
theorem dX12_text_77 : decode cX12_text 77 = .ok (.invokevirtual 184, 3) := by decide +kernel
theorem dX12_text_80 : decode cX12_text 80 = .ok (.aload_n 0, 1) := by decide +kernel
theorem dX12_text_81 : decode cX12_text 81 = .ok (.iconst 0, 1) := by decide +kernel
theorem dX12_text_82 : decode cX12_text 82 = .ok (.putfield 150, 3) := by decide +kernel
theorem dX12_text_85 : decode cX12_text 85 = .ok (.aload_n 0, 1) := by decide +kernel
theorem dX12_text_86 : decode cX12_text 86 = .ok (.getfield 175, 3) := by decide +kernel
theorem dX12_text_89 : decode cX12_text 89 = .ok (.ifCond .lt 11, 3) := by decide +kernel
theorem dX12_text_92 : decode cX12_text 92 = .ok (.bipush (-100), 2) := by decide +kernel
theorem dX12_text_94 : decode cX12_text 94 = .ok (.aload_n 0, 1) := by decide +kernel
theorem dX12_text_95 : decode cX12_text 95 = .ok (.getfield 175, 3) := by decide +kernel
theorem dX12_text_98 : decode cX12_text 98 = .ok (.isub, 1) := by decide +kernel
theorem dX12_text_99 : decode cX12_text 99 = .ok (.ireturn, 1) := by decide +kernel
theorem dX12_text_100 : decode cX12_text 100 = .ok (.iconst 0, 1) := by decide +kernel
theorem dX12_text_101 : decode cX12_text 101 = .ok (.istore_n 1, 1) := by decide +kernel
theorem dX12_text_102 : decode cX12_text 102 = .ok (.iload_n 1, 1) := by decide +kernel
theorem dX12_text_103 : decode cX12_text 103 = .ok (.aload_n 0, 1) := by decide +kernel
theorem dX12_text_104 : decode cX12_text 104 = .ok (.getfield 178, 3) := by decide +kernel
theorem dX12_text_107 : decode cX12_text 107 = .ok (.if_icmp .ge 59, 3) := by decide +kernel
theorem dX12_text_110 : decode cX12_text 110 = .ok (.aload_n 0, 1) := by decide +kernel
theorem dX12_text_111 : decode cX12_text 111 = .ok (.getfield 48, 3) := by decide +kernel
theorem dX12_text_114 : decode cX12_text 114 = .ok (.sipush 170, 3) := by decide +kernel
theorem dX12_text_117 : decode cX12_text 117 = .ok (.aload_n 0, 1) := by decide +kernel
theorem dX12_text_118 : decode cX12_text 118 = .ok (.getfield 45, 3) := by decide +kernel
theorem dX12_text_121 : decode cX12_text 121 = .ok (.imul, 1) := by decide +kernel
theorem dX12_text_122 : decode cX12_text 122 = .ok (.iload_n 1, 1) := by decide +kernel
theorem dX12_text_123 : decode cX12_text 123 = .ok (.iadd, 1) := by decide +kernel
theorem dX12_text_124 : decode cX12_text 124 = .ok (.aload_n 0, 1) := by decide +kernel
theorem dX12_text_125 : decode cX12_text 125 = .ok (.getfield 48, 3) := by decide +kernel
theorem dX12_text_128 : decode cX12_text 128 = .ok (.sipush 1020, 3) := by decide +kernel
theorem dX12_text_131 : decode cX12_text 131 = .ok (.iload_n 1, 1) := by decide +kernel
theorem dX12_text_132 : decode cX12_text 132 = .ok (.iadd, 1) := by decide +kernel
theorem dX12_text_133 : decode cX12_text 133 = .ok (.iaload, 1) := by decide +kernel
theorem dX12_text_134 : decode cX12_text 134 = .ok (.iastore, 1) := by decide +kernel
theorem dX12_text_135 : decode cX12_text 135 = .ok (.aload_n 0, 1) := by decide +kernel
theorem dX12_text_136 : decode cX12_text 136 = .ok (.getfield 51, 3) := by decide +kernel
theorem dX12_text_139 : decode cX12_text 139 = .ok (.sipush 170, 3) := by decide +kernel
theorem dX12_text_142 : decode cX12_text 142 = .ok (.aload_n 0, 1) := by decide +kernel
theorem dX12_text_143 : decode cX12_text 143 = .ok (.getfield 45, 3) := by decide +kernel
theorem dX12_text_146 : decode cX12_text 146 = .ok (.imul, 1) := by decide +kernel
theorem dX12_text_147 : decode cX12_text 147 = .ok (.iload_n 1, 1) := by decide +kernel
theorem dX12_text_148 : decode cX12_text 148 = .ok (.iadd, 1) := by decide +kernel
theorem dX12_text_149 : decode cX12_text 149 = .ok (.aload_n 0, 1) := by decide +kernel
theorem dX12_text_150 : decode cX12_text 150 = .ok (.getfield 51, 3) := by decide +kernel
theorem dX12_text_153 : decode cX12_text 153 = .ok (.sipush 1020, 3) := by decide +kernel
theorem dX12_text_156 : decode cX12_text 156 = .ok (.iload_n 1, 1) := by decide +kernel
theorem dX12_text_157 : decode cX12_text 157 = .ok (.iadd, 1) := by decide +kernel
theorem dX12_text_158 : decode cX12_text 158 = .ok (.iaload, 1) := by decide +kernel
theorem dX12_text_159 : decode cX12_text 159 = .ok (.iastore, 1) := by decide +kernel
theorem dX12_text_160 : decode cX12_text 160 = .ok (.iinc 1 1, 3) := by decide +kernel
theorem dX12_text_163 : decode cX12_text 163 = .ok (.goto (-61), 3) := by decide +kernel
theorem dX12_text_166 : decode cX12_text 166 = .ok (.iconst 0, 1) := by decide +kernel
theorem dX12_text_167 : decode cX12_text 167 = .ok (.istore_n 1, 1) := by decide +kernel
theorem dX12_text_168 : decode cX12_text 168 = .ok (.iload_n 1, 1) := by decide +kernel
theorem dX12_text_169 : decode cX12_text 169 = .ok (.iconst 3, 1) := by decide +kernel
theorem dX12_text_170 : decode cX12_text 170 = .ok (.if_icmp .ge 31, 3) := by decide +kernel
theorem dX12_text_173 : decode cX12_text 173 = .ok (.aload_n 0, 1) := by decide +kernel
theorem dX12_text_174 : decode cX12_text 174 = .ok (.getfield 54, 3) := by decide +kernel
theorem dX12_text_177 : decode cX12_text 177 = .ok (.iconst 3, 1) := by decide +kernel
theorem dX12_text_178 : decode cX12_text 178 = .ok (.aload_n 0, 1) := by decide +kernel
theorem dX12_text_179 : decode cX12_text 179 = .ok (.getfield 45, 3) := by decide +kernel
theorem dX12_text_182 : decode cX12_text 182 = .ok (.imul, 1) := by decide +kernel
theorem dX12_text_183 : decode cX12_text 183 = .ok (.iload_n 1, 1) := by decide +kernel
theorem dX12_text_184 : decode cX12_text 184 = .ok (.iadd, 1) := by decide +kernel
theorem dX12_text_185 : decode cX12_text 185 = .ok (.aload_n 0, 1) := by decide +kernel
theorem dX12_text_186 : decode cX12_text 186 = .ok (.getfield 54, 3) := by decide +kernel
theorem dX12_text_189 : decode cX12_text 189 = .ok (.bipush 18, 2) := by decide +kernel
theorem dX12_text_191 : decode cX12_text 191 = .ok (.iload_n 1, 1) := by decide +kernel
theorem dX12_text_192 : decode cX12_text 192 = .ok (.iadd, 1) := by decide +kernel
theorem dX12_text_193 : decode cX12_text 193 = .ok (.iaload, 1) := by decide +kernel
theorem dX12_text_194 : decode cX12_text 194 = .ok (.iastore, 1) := by decide +kernel
theorem dX12_text_195 : decode cX12_text 195 = .ok (.iinc 1 1, 3) := by decide +kernel
theorem dX12_text_198 : decode cX12_text 198 = .ok (.goto (-30), 3) := by decide +kernel
theorem dX12_text_201 : decode cX12_text 201 = .ok (.aload_n 0, 1) := by decide +kernel
theorem dX12_text_202 : decode cX12_text 202 = .ok (.dup, 1) := by decide +kernel
theorem dX12_text_203 : decode cX12_text 203 = .ok (.getfield 45, 3) := by decide +kernel
theorem dX12_text_206 : decode cX12_text 206 = .ok (.iconst 1, 1) := by decide +kernel
theorem dX12_text_207 : decode cX12_text 207 = .ok (.iadd, 1) := by decide +kernel
theorem dX12_text_208 : decode cX12_text 208 = .ok (.putfield 45, 3) := by decide +kernel
theorem dX12_text_211 : decode cX12_text 211 = .ok (.aload_n 0, 1) := by decide +kernel
theorem dX12_text_212 : decode cX12_text 212 = .ok (.getfield 45, 3) := by decide +kernel
theorem dX12_text_215 : decode cX12_text 215 = .ok (.iconst 1, 1) := by decide +kernel
theorem dX12_text_216 : decode cX12_text 216 = .ok (.isub, 1) := by decide +kernel
theorem dX12_text_217 : decode cX12_text 217 = .ok (.ireturn, 1) := by decide +kernel
theorem dX12_force_0 : decode cX12_force 0 = .ok (.iload_n 1, 1) := by decide +kernel
theorem dX12_force_1 : decode cX12_force 1 = .ok (.iconst 0, 1) := by decide +kernel
theorem dX12_force_2 : decode cX12_force 2 = .ok (.aload_n 0, 1) := by decide +kernel
theorem dX12_force_3 : decode cX12_force 3 = .ok (.getfield 45, 3) := by decide +kernel
theorem dX12_force_6 : decode cX12_force 6 = .ok (.iconst 1, 1) := by decide +kernel
theorem dX12_force_7 : decode cX12_force 7 = .ok (.isub, 1) := by decide +kernel
theorem dX12_force_8 : decode cX12_force 8 = .ok (.invokestatic 127, 3) := by decide +kernel
theorem dX12_force_11 : decode cX12_force 11 = .ok (.ifCond .ne 6, 3) := by decide +kernel
theorem dX12_force_14 : decode cX12_force 14 = .ok (.bipush (-2), 2) := by decide +kernel
theorem dX12_force_16 : decode cX12_force 16 = .ok (.ireturn, 1) := by decide +kernel
theorem dX12_force_17 : decode cX12_force 17 = .ok (.aload_n 0, 1) := by decide +kernel
theorem dX12_force_18 : decode cX12_force 18 = .ok (.getfield 226, 3) := by decide +kernel
theorem dX12_force_21 : decode cX12_force 21 = .ok (.istore_n 2, 1) := by decide +kernel
theorem dX12_force_22 : decode cX12_force 22 = .ok (.aload_n 0, 1) := by decide +kernel
theorem dX12_force_23 : decode cX12_force 23 = .ok (.iload_n 1, 1) := by decide +kernel
theorem dX12_force_24 : decode cX12_force 24 = .ok (.putfield 226, 3) := by decide +kernel
theorem dX12_force_27 : decode cX12_force 27 = .ok (.iload_n 2, 1) := by decide +kernel
theorem dX12_force_28 : decode cX12_force 28 = .ok (.ireturn, 1) := by decide +kernel
theorem dX12_twoOf_0 : decode cX12_twoOf 0 = .ok (.iload_n 0, 1) := by decide +kernel
theorem dX12_twoOf_1 : decode cX12_twoOf 1 = .ok (.lookupswitch 117 #[(5, 59), (6, 73), (43, 109), (45, 113), (60, 87), (61, 98)], 59) := by decide +kernel
theorem dX12_twoOf_60 : decode cX12_twoOf 60 = .ok (.iload_n 1, 1) := by decide +kernel
theorem dX12_twoOf_61 : decode cX12_twoOf 61 = .ok (.ifCond .ne 7, 3) := by decide +kernel
theorem dX12_twoOf_64 : decode cX12_twoOf 64 = .ok (.iload_n 2, 1) := by decide +kernel
theorem dX12_twoOf_65 : decode cX12_twoOf 65 = .ok (.ifCond .eq 7, 3) := by decide +kernel
theorem dX12_twoOf_68 : decode cX12_twoOf 68 = .ok (.iconst 1, 1) := by decide +kernel
theorem dX12_twoOf_69 : decode cX12_twoOf 69 = .ok (.goto 4, 3) := by decide +kernel
theorem dX12_twoOf_72 : decode cX12_twoOf 72 = .ok (.iconst 0, 1) := by decide +kernel
theorem dX12_twoOf_73 : decode cX12_twoOf 73 = .ok (.ireturn, 1) := by decide +kernel
theorem dX12_twoOf_74 : decode cX12_twoOf 74 = .ok (.iload_n 1, 1) := by decide +kernel
theorem dX12_twoOf_75 : decode cX12_twoOf 75 = .ok (.ifCond .eq 11, 3) := by decide +kernel
theorem dX12_twoOf_78 : decode cX12_twoOf 78 = .ok (.iload_n 2, 1) := by decide +kernel
theorem dX12_twoOf_79 : decode cX12_twoOf 79 = .ok (.ifCond .eq 7, 3) := by decide +kernel
theorem dX12_twoOf_82 : decode cX12_twoOf 82 = .ok (.iconst 1, 1) := by decide +kernel
theorem dX12_twoOf_83 : decode cX12_twoOf 83 = .ok (.goto 4, 3) := by decide +kernel
theorem dX12_twoOf_86 : decode cX12_twoOf 86 = .ok (.iconst 0, 1) := by decide +kernel
theorem dX12_twoOf_87 : decode cX12_twoOf 87 = .ok (.ireturn, 1) := by decide +kernel
theorem dX12_twoOf_88 : decode cX12_twoOf 88 = .ok (.iload_n 1, 1) := by decide +kernel
theorem dX12_twoOf_89 : decode cX12_twoOf 89 = .ok (.iload_n 2, 1) := by decide +kernel
theorem dX12_twoOf_90 : decode cX12_twoOf 90 = .ok (.if_icmp .ge 7, 3) := by decide +kernel
theorem dX12_twoOf_93 : decode cX12_twoOf 93 = .ok (.iconst 1, 1) := by decide +kernel
theorem dX12_twoOf_94 : decode cX12_twoOf 94 = .ok (.goto 4, 3) := by decide +kernel
theorem dX12_twoOf_97 : decode cX12_twoOf 97 = .ok (.iconst 0, 1) := by decide +kernel
theorem dX12_twoOf_98 : decode cX12_twoOf 98 = .ok (.ireturn, 1) := by decide +kernel
theorem dX12_twoOf_99 : decode cX12_twoOf 99 = .ok (.iload_n 1, 1) := by decide +kernel
theorem dX12_twoOf_100 : decode cX12_twoOf 100 = .ok (.iload_n 2, 1) := by decide +kernel
theorem dX12_twoOf_101 : decode cX12_twoOf 101 = .ok (.if_icmp .ne 7, 3) := by decide +kernel
theorem dX12_twoOf_104 : decode cX12_twoOf 104 = .ok (.iconst 1, 1) := by decide +kernel
theorem dX12_twoOf_105 : decode cX12_twoOf 105 = .ok (.goto 4, 3) := by decide +kernel
theorem dX12_twoOf_108 : decode cX12_twoOf 108 = .ok (.iconst 0, 1) := by decide +kernel
theorem dX12_twoOf_109 : decode cX12_twoOf 109 = .ok (.ireturn, 1) := by decide +kernel
theorem dX12_twoOf_110 : decode cX12_twoOf 110 = .ok (.iload_n 1, 1) := by decide +kernel
theorem dX12_twoOf_111 : decode cX12_twoOf 111 = .ok (.iload_n 2, 1) := by decide +kernel
theorem dX12_twoOf_112 : decode cX12_twoOf 112 = .ok (.iadd, 1) := by decide +kernel
theorem dX12_twoOf_113 : decode cX12_twoOf 113 = .ok (.ireturn, 1) := by decide +kernel
theorem dX12_twoOf_114 : decode cX12_twoOf 114 = .ok (.iload_n 1, 1) := by decide +kernel
theorem dX12_twoOf_115 : decode cX12_twoOf 115 = .ok (.iload_n 2, 1) := by decide +kernel
theorem dX12_twoOf_116 : decode cX12_twoOf 116 = .ok (.isub, 1) := by decide +kernel
theorem dX12_twoOf_117 : decode cX12_twoOf 117 = .ok (.ireturn, 1) := by decide +kernel
theorem dX12_twoOf_118 : decode cX12_twoOf 118 = .ok (.iload_n 1, 1) := by decide +kernel
theorem dX12_twoOf_119 : decode cX12_twoOf 119 = .ok (.iload_n 2, 1) := by decide +kernel
theorem dX12_twoOf_120 : decode cX12_twoOf 120 = .ok (.imul, 1) := by decide +kernel
theorem dX12_twoOf_121 : decode cX12_twoOf 121 = .ok (.ireturn, 1) := by decide +kernel
theorem dX12_gives_0 : decode cX12_gives 0 = .ok (.aload_n 0, 1) := by decide +kernel
theorem dX12_gives_1 : decode cX12_gives 1 = .ok (.getfield 226, 3) := by decide +kernel
theorem dX12_gives_4 : decode cX12_gives 4 = .ok (.ifCond .ne 37, 3) := by decide +kernel
theorem dX12_gives_7 : decode cX12_gives 7 = .ok (.iload_n 1, 1) := by decide +kernel
theorem dX12_gives_8 : decode cX12_gives 8 = .ok (.ifCond .ne 7, 3) := by decide +kernel
theorem dX12_gives_11 : decode cX12_gives 11 = .ok (.iconst 0, 1) := by decide +kernel
theorem dX12_gives_12 : decode cX12_gives 12 = .ok (.goto 28, 3) := by decide +kernel
theorem dX12_gives_15 : decode cX12_gives 15 = .ok (.iload_n 1, 1) := by decide +kernel
theorem dX12_gives_16 : decode cX12_gives 16 = .ok (.iconst 2, 1) := by decide +kernel
theorem dX12_gives_17 : decode cX12_gives 17 = .ok (.if_icmp .ne 7, 3) := by decide +kernel
theorem dX12_gives_20 : decode cX12_gives 20 = .ok (.iconst 1, 1) := by decide +kernel
theorem dX12_gives_21 : decode cX12_gives 21 = .ok (.goto 19, 3) := by decide +kernel
theorem dX12_gives_24 : decode cX12_gives 24 = .ok (.bipush 8, 2) := by decide +kernel
theorem dX12_gives_26 : decode cX12_gives 26 = .ok (.aload_n 0, 1) := by decide +kernel
theorem dX12_gives_27 : decode cX12_gives 27 = .ok (.getfield 60, 3) := by decide +kernel
theorem dX12_gives_30 : decode cX12_gives 30 = .ok (.iconst 0, 1) := by decide +kernel
theorem dX12_gives_31 : decode cX12_gives 31 = .ok (.iaload, 1) := by decide +kernel
theorem dX12_gives_32 : decode cX12_gives 32 = .ok (.if_icmp .ge 7, 3) := by decide +kernel
theorem dX12_gives_35 : decode cX12_gives 35 = .ok (.iconst 1, 1) := by decide +kernel
theorem dX12_gives_36 : decode cX12_gives 36 = .ok (.goto 4, 3) := by decide +kernel
theorem dX12_gives_39 : decode cX12_gives 39 = .ok (.iconst 0, 1) := by decide +kernel
theorem dX12_gives_40 : decode cX12_gives 40 = .ok (.ireturn, 1) := by decide +kernel
theorem dX12_gives_41 : decode cX12_gives 41 = .ok (.iconst 0, 1) := by decide +kernel
theorem dX12_gives_42 : decode cX12_gives 42 = .ok (.istore_n 2, 1) := by decide +kernel
theorem dX12_gives_43 : decode cX12_gives 43 = .ok (.iload_n 1, 1) := by decide +kernel
theorem dX12_gives_44 : decode cX12_gives 44 = .ok (.ifCond .ne 7, 3) := by decide +kernel
theorem dX12_gives_47 : decode cX12_gives 47 = .ok (.iconst 0, 1) := by decide +kernel
theorem dX12_gives_48 : decode cX12_gives 48 = .ok (.goto 18, 3) := by decide +kernel
theorem dX12_gives_51 : decode cX12_gives 51 = .ok (.aload_n 0, 1) := by decide +kernel
theorem dX12_gives_52 : decode cX12_gives 52 = .ok (.getfield 54, 3) := by decide +kernel
theorem dX12_gives_55 : decode cX12_gives 55 = .ok (.iconst 3, 1) := by decide +kernel
theorem dX12_gives_56 : decode cX12_gives 56 = .ok (.aload_n 0, 1) := by decide +kernel
theorem dX12_gives_57 : decode cX12_gives 57 = .ok (.getfield 226, 3) := by decide +kernel
theorem dX12_gives_60 : decode cX12_gives 60 = .ok (.imul, 1) := by decide +kernel
theorem dX12_gives_61 : decode cX12_gives 61 = .ok (.iload_n 1, 1) := by decide +kernel
theorem dX12_gives_62 : decode cX12_gives 62 = .ok (.iadd, 1) := by decide +kernel
theorem dX12_gives_63 : decode cX12_gives 63 = .ok (.iconst 1, 1) := by decide +kernel
theorem dX12_gives_64 : decode cX12_gives 64 = .ok (.isub, 1) := by decide +kernel
theorem dX12_gives_65 : decode cX12_gives 65 = .ok (.iaload, 1) := by decide +kernel
theorem dX12_gives_66 : decode cX12_gives 66 = .ok (.istore_n 3, 1) := by decide +kernel
theorem dX12_gives_67 : decode cX12_gives 67 = .ok (.sipush 170, 3) := by decide +kernel
theorem dX12_gives_70 : decode cX12_gives 70 = .ok (.aload_n 0, 1) := by decide +kernel
theorem dX12_gives_71 : decode cX12_gives 71 = .ok (.getfield 226, 3) := by decide +kernel
theorem dX12_gives_74 : decode cX12_gives 74 = .ok (.imul, 1) := by decide +kernel
theorem dX12_gives_75 : decode cX12_gives 75 = .ok (.iload_n 3, 1) := by decide +kernel
theorem dX12_gives_76 : decode cX12_gives 76 = .ok (.iadd, 1) := by decide +kernel
theorem dX12_gives_77 : decode cX12_gives 77 = .ok (.istore 4, 2) := by decide +kernel
theorem dX12_gives_79 : decode cX12_gives 79 = .ok (.iload 4, 2) := by decide +kernel
theorem dX12_gives_81 : decode cX12_gives 81 = .ok (.sipush 170, 3) := by decide +kernel
theorem dX12_gives_84 : decode cX12_gives 84 = .ok (.aload_n 0, 1) := by decide +kernel
theorem dX12_gives_85 : decode cX12_gives 85 = .ok (.getfield 226, 3) := by decide +kernel
theorem dX12_gives_88 : decode cX12_gives 88 = .ok (.imul, 1) := by decide +kernel
theorem dX12_gives_89 : decode cX12_gives 89 = .ok (.aload_n 0, 1) := by decide +kernel
theorem dX12_gives_90 : decode cX12_gives 90 = .ok (.getfield 54, 3) := by decide +kernel
theorem dX12_gives_93 : decode cX12_gives 93 = .ok (.iconst 3, 1) := by decide +kernel
theorem dX12_gives_94 : decode cX12_gives 94 = .ok (.aload_n 0, 1) := by decide +kernel
theorem dX12_gives_95 : decode cX12_gives 95 = .ok (.getfield 226, 3) := by decide +kernel
theorem dX12_gives_98 : decode cX12_gives 98 = .ok (.imul, 1) := by decide +kernel
theorem dX12_gives_99 : decode cX12_gives 99 = .ok (.iload_n 1, 1) := by decide +kernel
theorem dX12_gives_100 : decode cX12_gives 100 = .ok (.iadd, 1) := by decide +kernel
theorem dX12_gives_101 : decode cX12_gives 101 = .ok (.iaload, 1) := by decide +kernel
theorem dX12_gives_102 : decode cX12_gives 102 = .ok (.iadd, 1) := by decide +kernel
theorem dX12_gives_103 : decode cX12_gives 103 = .ok (.if_icmp .ge 174, 3) := by decide +kernel
theorem dX12_gives_106 : decode cX12_gives 106 = .ok (.aload_n 0, 1) := by decide +kernel
theorem dX12_gives_107 : decode cX12_gives 107 = .ok (.getfield 48, 3) := by decide +kernel
theorem dX12_gives_110 : decode cX12_gives 110 = .ok (.iload 4, 2) := by decide +kernel
theorem dX12_gives_112 : decode cX12_gives 112 = .ok (.iaload, 1) := by decide +kernel
theorem dX12_gives_113 : decode cX12_gives 113 = .ok (.tableswitch 121 1 4 #[31, 50, 74, 101], 31) := by decide +kernel
theorem dX12_gives_144 : decode cX12_gives 144 = .ok (.aload_n 0, 1) := by decide +kernel
theorem dX12_gives_145 : decode cX12_gives 145 = .ok (.getfield 57, 3) := by decide +kernel
theorem dX12_gives_148 : decode cX12_gives 148 = .ok (.iload_n 2, 1) := by decide +kernel
theorem dX12_gives_149 : decode cX12_gives 149 = .ok (.aload_n 0, 1) := by decide +kernel
theorem dX12_gives_150 : decode cX12_gives 150 = .ok (.getfield 51, 3) := by decide +kernel
theorem dX12_gives_153 : decode cX12_gives 153 = .ok (.iload 4, 2) := by decide +kernel
theorem dX12_gives_155 : decode cX12_gives 155 = .ok (.iaload, 1) := by decide +kernel
theorem dX12_gives_156 : decode cX12_gives 156 = .ok (.iastore, 1) := by decide +kernel
theorem dX12_gives_157 : decode cX12_gives 157 = .ok (.iinc 2 1, 3) := by decide +kernel
theorem dX12_gives_160 : decode cX12_gives 160 = .ok (.goto 111, 3) := by decide +kernel
theorem dX12_gives_163 : decode cX12_gives 163 = .ok (.aload_n 0, 1) := by decide +kernel
theorem dX12_gives_164 : decode cX12_gives 164 = .ok (.getfield 57, 3) := by decide +kernel
theorem dX12_gives_167 : decode cX12_gives 167 = .ok (.iload_n 2, 1) := by decide +kernel
theorem dX12_gives_168 : decode cX12_gives 168 = .ok (.aload_n 0, 1) := by decide +kernel
theorem dX12_gives_169 : decode cX12_gives 169 = .ok (.getfield 60, 3) := by decide +kernel
theorem dX12_gives_172 : decode cX12_gives 172 = .ok (.aload_n 0, 1) := by decide +kernel
theorem dX12_gives_173 : decode cX12_gives 173 = .ok (.getfield 51, 3) := by decide +kernel
theorem dX12_gives_176 : decode cX12_gives 176 = .ok (.iload 4, 2) := by decide +kernel
theorem dX12_gives_178 : decode cX12_gives 178 = .ok (.iaload, 1) := by decide +kernel
theorem dX12_gives_179 : decode cX12_gives 179 = .ok (.iaload, 1) := by decide +kernel
theorem dX12_gives_180 : decode cX12_gives 180 = .ok (.iastore, 1) := by decide +kernel
theorem dX12_gives_181 : decode cX12_gives 181 = .ok (.iinc 2 1, 3) := by decide +kernel
theorem dX12_gives_184 : decode cX12_gives 184 = .ok (.goto 87, 3) := by decide +kernel
theorem dX12_gives_187 : decode cX12_gives 187 = .ok (.aload_n 0, 1) := by decide +kernel
theorem dX12_gives_188 : decode cX12_gives 188 = .ok (.getfield 57, 3) := by decide +kernel
theorem dX12_gives_191 : decode cX12_gives 191 = .ok (.iload_n 2, 1) := by decide +kernel
theorem dX12_gives_192 : decode cX12_gives 192 = .ok (.iconst 1, 1) := by decide +kernel
theorem dX12_gives_193 : decode cX12_gives 193 = .ok (.isub, 1) := by decide +kernel
theorem dX12_gives_194 : decode cX12_gives 194 = .ok (.aload_n 0, 1) := by decide +kernel
theorem dX12_gives_195 : decode cX12_gives 195 = .ok (.getfield 57, 3) := by decide +kernel
theorem dX12_gives_198 : decode cX12_gives 198 = .ok (.iload_n 2, 1) := by decide +kernel
theorem dX12_gives_199 : decode cX12_gives 199 = .ok (.iconst 1, 1) := by decide +kernel
theorem dX12_gives_200 : decode cX12_gives 200 = .ok (.isub, 1) := by decide +kernel
theorem dX12_gives_201 : decode cX12_gives 201 = .ok (.iaload, 1) := by decide +kernel
theorem dX12_gives_202 : decode cX12_gives 202 = .ok (.ifCond .ne 7, 3) := by decide +kernel
theorem dX12_gives_205 : decode cX12_gives 205 = .ok (.iconst 1, 1) := by decide +kernel
theorem dX12_gives_206 : decode cX12_gives 206 = .ok (.goto 4, 3) := by decide +kernel
theorem dX12_gives_209 : decode cX12_gives 209 = .ok (.iconst 0, 1) := by decide +kernel
theorem dX12_gives_210 : decode cX12_gives 210 = .ok (.iastore, 1) := by decide +kernel
theorem dX12_gives_211 : decode cX12_gives 211 = .ok (.goto 60, 3) := by decide +kernel
theorem dX12_gives_214 : decode cX12_gives 214 = .ok (.aload_n 0, 1) := by decide +kernel
theorem dX12_gives_215 : decode cX12_gives 215 = .ok (.getfield 57, 3) := by decide +kernel
theorem dX12_gives_218 : decode cX12_gives 218 = .ok (.iload_n 2, 1) := by decide +kernel
theorem dX12_gives_219 : decode cX12_gives 219 = .ok (.iconst 1, 1) := by decide +kernel
theorem dX12_gives_220 : decode cX12_gives 220 = .ok (.isub, 1) := by decide +kernel
theorem dX12_gives_221 : decode cX12_gives 221 = .ok (.aload_n 0, 1) := by decide +kernel
theorem dX12_gives_222 : decode cX12_gives 222 = .ok (.getfield 57, 3) := by decide +kernel
theorem dX12_gives_225 : decode cX12_gives 225 = .ok (.iload_n 2, 1) := by decide +kernel
theorem dX12_gives_226 : decode cX12_gives 226 = .ok (.iconst 1, 1) := by decide +kernel
theorem dX12_gives_227 : decode cX12_gives 227 = .ok (.isub, 1) := by decide +kernel
theorem dX12_gives_228 : decode cX12_gives 228 = .ok (.iaload, 1) := by decide +kernel
theorem dX12_gives_229 : decode cX12_gives 229 = .ok (.ineg, 1) := by decide +kernel
theorem dX12_gives_230 : decode cX12_gives 230 = .ok (.iastore, 1) := by decide +kernel
theorem dX12_gives_231 : decode cX12_gives 231 = .ok (.goto 40, 3) := by decide +kernel
theorem dX12_gives_234 : decode cX12_gives 234 = .ok (.aload_n 0, 1) := by decide +kernel
theorem dX12_gives_235 : decode cX12_gives 235 = .ok (.getfield 57, 3) := by decide +kernel
theorem dX12_gives_238 : decode cX12_gives 238 = .ok (.iload_n 2, 1) := by decide +kernel
theorem dX12_gives_239 : decode cX12_gives 239 = .ok (.iconst 2, 1) := by decide +kernel
theorem dX12_gives_240 : decode cX12_gives 240 = .ok (.isub, 1) := by decide +kernel
theorem dX12_gives_241 : decode cX12_gives 241 = .ok (.aload_n 0, 1) := by decide +kernel
theorem dX12_gives_242 : decode cX12_gives 242 = .ok (.getfield 48, 3) := by decide +kernel
theorem dX12_gives_245 : decode cX12_gives 245 = .ok (.iload 4, 2) := by decide +kernel
theorem dX12_gives_247 : decode cX12_gives 247 = .ok (.iaload, 1) := by decide +kernel
theorem dX12_gives_248 : decode cX12_gives 248 = .ok (.aload_n 0, 1) := by decide +kernel
theorem dX12_gives_249 : decode cX12_gives 249 = .ok (.getfield 57, 3) := by decide +kernel
theorem dX12_gives_252 : decode cX12_gives 252 = .ok (.iload_n 2, 1) := by decide +kernel
theorem dX12_gives_253 : decode cX12_gives 253 = .ok (.iconst 2, 1) := by decide +kernel
theorem dX12_gives_254 : decode cX12_gives 254 = .ok (.isub, 1) := by decide +kernel
theorem dX12_gives_255 : decode cX12_gives 255 = .ok (.iaload, 1) := by decide +kernel
theorem dX12_gives_256 : decode cX12_gives 256 = .ok (.aload_n 0, 1) := by decide +kernel
theorem dX12_gives_257 : decode cX12_gives 257 = .ok (.getfield 57, 3) := by decide +kernel
theorem dX12_gives_260 : decode cX12_gives 260 = .ok (.iload_n 2, 1) := by decide +kernel
theorem dX12_gives_261 : decode cX12_gives 261 = .ok (.iconst 1, 1) := by decide +kernel
theorem dX12_gives_262 : decode cX12_gives 262 = .ok (.isub, 1) := by decide +kernel
theorem dX12_gives_263 : decode cX12_gives 263 = .ok (.iaload, 1) := by decide +kernel
theorem dX12_gives_264 : decode cX12_gives 264 = .ok (.invokestatic 229, 3) := by decide +kernel
theorem dX12_gives_267 : decode cX12_gives 267 = .ok (.iastore, 1) := by decide +kernel
theorem dX12_gives_268 : decode cX12_gives 268 = .ok (.iinc 2 (-1), 3) := by decide +kernel
theorem dX12_gives_271 : decode cX12_gives 271 = .ok (.iinc 4 1, 3) := by decide +kernel
theorem dX12_gives_274 : decode cX12_gives 274 = .ok (.goto (-195), 3) := by decide +kernel
theorem dX12_gives_277 : decode cX12_gives 277 = .ok (.aload_n 0, 1) := by decide +kernel
theorem dX12_gives_278 : decode cX12_gives 278 = .ok (.getfield 57, 3) := by decide +kernel
theorem dX12_gives_281 : decode cX12_gives 281 = .ok (.iconst 0, 1) := by decide +kernel
theorem dX12_gives_282 : decode cX12_gives 282 = .ok (.iaload, 1) := by decide +kernel
theorem dX12_gives_283 : decode cX12_gives 283 = .ok (.ireturn, 1) := by decide +kernel
theorem dX12_isWay_0 : decode cX12_isWay 0 = .ok (.iload_n 1, 1) := by decide +kernel
theorem dX12_isWay_1 : decode cX12_isWay 1 = .ok (.iconst 0, 1) := by decide +kernel
theorem dX12_isWay_2 : decode cX12_isWay 2 = .ok (.bipush 6, 2) := by decide +kernel
theorem dX12_isWay_4 : decode cX12_isWay 4 = .ok (.invokestatic 127, 3) := by decide +kernel
theorem dX12_isWay_7 : decode cX12_isWay 7 = .ok (.ireturn, 1) := by decide +kernel
theorem dX12_isMissing_0 : decode cX12_isMissing 0 = .ok (.iload_n 1, 1) := by decide +kernel
theorem dX12_isMissing_1 : decode cX12_isMissing 1 = .ok (.iconst 2, 1) := by decide +kernel
theorem dX12_isMissing_2 : decode cX12_isMissing 2 = .ok (.iconst 5, 1) := by decide +kernel
theorem dX12_isMissing_3 : decode cX12_isMissing 3 = .ok (.invokestatic 127, 3) := by decide +kernel
theorem dX12_isMissing_6 : decode cX12_isMissing 6 = .ok (.ifCond .eq 18, 3) := by decide +kernel
theorem dX12_isMissing_9 : decode cX12_isMissing 9 = .ok (.aload_n 0, 1) := by decide +kernel
theorem dX12_isMissing_10 : decode cX12_isMissing 10 = .ok (.getfield 109, 3) := by decide +kernel
theorem dX12_isMissing_13 : decode cX12_isMissing 13 = .ok (.iload_n 1, 1) := by decide +kernel
theorem dX12_isMissing_14 : decode cX12_isMissing 14 = .ok (.iconst 2, 1) := by decide +kernel
theorem dX12_isMissing_15 : decode cX12_isMissing 15 = .ok (.isub, 1) := by decide +kernel
theorem dX12_isMissing_16 : decode cX12_isMissing 16 = .ok (.iaload, 1) := by decide +kernel
theorem dX12_isMissing_17 : decode cX12_isMissing 17 = .ok (.ifCond .ge 7, 3) := by decide +kernel
theorem dX12_isMissing_20 : decode cX12_isMissing 20 = .ok (.iconst 1, 1) := by decide +kernel
theorem dX12_isMissing_21 : decode cX12_isMissing 21 = .ok (.goto 4, 3) := by decide +kernel
theorem dX12_isMissing_24 : decode cX12_isMissing 24 = .ok (.iconst 0, 1) := by decide +kernel
theorem dX12_isMissing_25 : decode cX12_isMissing 25 = .ok (.ireturn, 1) := by decide +kernel
theorem dX12_loudAt_0 : decode cX12_loudAt 0 = .ok (.aload_n 0, 1) := by decide +kernel
theorem dX12_loudAt_1 : decode cX12_loudAt 1 = .ok (.getfield 232, 3) := by decide +kernel
theorem dX12_loudAt_4 : decode cX12_loudAt 4 = .ok (.ifCond .ge 12, 3) := by decide +kernel
theorem dX12_loudAt_7 : decode cX12_loudAt 7 = .ok (.aload_n 0, 1) := by decide +kernel
theorem dX12_loudAt_8 : decode cX12_loudAt 8 = .ok (.getfield 13, 3) := by decide +kernel
theorem dX12_loudAt_11 : decode cX12_loudAt 11 = .ok (.iload_n 1, 1) := by decide +kernel
theorem dX12_loudAt_12 : decode cX12_loudAt 12 = .ok (.iaload, 1) := by decide +kernel
theorem dX12_loudAt_13 : decode cX12_loudAt 13 = .ok (.goto 7, 3) := by decide +kernel
theorem dX12_loudAt_16 : decode cX12_loudAt 16 = .ok (.aload_n 0, 1) := by decide +kernel
theorem dX12_loudAt_17 : decode cX12_loudAt 17 = .ok (.getfield 232, 3) := by decide +kernel
theorem dX12_loudAt_20 : decode cX12_loudAt 20 = .ok (.ireturn, 1) := by decide +kernel
theorem dX12_begin_0 : decode cX12_begin 0 = .ok (.iconst 0, 1) := by decide +kernel
theorem dX12_begin_1 : decode cX12_begin 1 = .ok (.istore_n 1, 1) := by decide +kernel
theorem dX12_begin_2 : decode cX12_begin 2 = .ok (.iload_n 1, 1) := by decide +kernel
theorem dX12_begin_3 : decode cX12_begin 3 = .ok (.aload_n 0, 1) := by decide +kernel
theorem dX12_begin_4 : decode cX12_begin 4 = .ok (.getfield 124, 3) := by decide +kernel
theorem dX12_begin_7 : decode cX12_begin 7 = .ok (.if_icmp .ge 30, 3) := by decide +kernel
theorem dX12_begin_10 : decode cX12_begin 10 = .ok (.aload_n 0, 1) := by decide +kernel
theorem dX12_begin_11 : decode cX12_begin 11 = .ok (.getfield 69, 3) := by decide +kernel
theorem dX12_begin_14 : decode cX12_begin 14 = .ok (.iload_n 1, 1) := by decide +kernel
theorem dX12_begin_15 : decode cX12_begin 15 = .ok (.iconst 0, 1) := by decide +kernel
theorem dX12_begin_16 : decode cX12_begin 16 = .ok (.iastore, 1) := by decide +kernel
theorem dX12_begin_17 : decode cX12_begin 17 = .ok (.aload_n 0, 1) := by decide +kernel
theorem dX12_begin_18 : decode cX12_begin 18 = .ok (.getfield 72, 3) := by decide +kernel
theorem dX12_begin_21 : decode cX12_begin 21 = .ok (.iload_n 1, 1) := by decide +kernel
theorem dX12_begin_22 : decode cX12_begin 22 = .ok (.iconst 0, 1) := by decide +kernel
theorem dX12_begin_23 : decode cX12_begin 23 = .ok (.iastore, 1) := by decide +kernel
theorem dX12_begin_24 : decode cX12_begin 24 = .ok (.aload_n 0, 1) := by decide +kernel
theorem dX12_begin_25 : decode cX12_begin 25 = .ok (.getfield 75, 3) := by decide +kernel
theorem dX12_begin_28 : decode cX12_begin 28 = .ok (.iload_n 1, 1) := by decide +kernel
theorem dX12_begin_29 : decode cX12_begin 29 = .ok (.iconst 0, 1) := by decide +kernel
theorem dX12_begin_30 : decode cX12_begin 30 = .ok (.iastore, 1) := by decide +kernel
theorem dX12_begin_31 : decode cX12_begin 31 = .ok (.iinc 1 1, 3) := by decide +kernel
theorem dX12_begin_34 : decode cX12_begin 34 = .ok (.goto (-32), 3) := by decide +kernel
theorem dX12_begin_37 : decode cX12_begin 37 = .ok (.aload_n 0, 1) := by decide +kernel
theorem dX12_begin_38 : decode cX12_begin 38 = .ok (.iconst (-1), 1) := by decide +kernel
theorem dX12_begin_39 : decode cX12_begin 39 = .ok (.putfield 235, 3) := by decide +kernel
theorem dX12_begin_42 : decode cX12_begin 42 = .ok (.aload_n 0, 1) := by decide +kernel
theorem dX12_begin_43 : decode cX12_begin 43 = .ok (.iconst (-1), 1) := by decide +kernel
theorem dX12_begin_44 : decode cX12_begin 44 = .ok (.putfield 238, 3) := by decide +kernel
theorem dX12_begin_47 : decode cX12_begin 47 = .ok (.aload_n 0, 1) := by decide +kernel
theorem dX12_begin_48 : decode cX12_begin 48 = .ok (.iconst (-1), 1) := by decide +kernel
theorem dX12_begin_49 : decode cX12_begin 49 = .ok (.putfield 232, 3) := by decide +kernel
theorem dX12_begin_52 : decode cX12_begin 52 = .ok (.return_, 1) := by decide +kernel
theorem dX12_isPlanned_0 : decode cX12_isPlanned 0 = .ok (.iconst 0, 1) := by decide +kernel
theorem dX12_isPlanned_1 : decode cX12_isPlanned 1 = .ok (.istore 4, 2) := by decide +kernel
theorem dX12_isPlanned_3 : decode cX12_isPlanned 3 = .ok (.iload 4, 2) := by decide +kernel
theorem dX12_isPlanned_5 : decode cX12_isPlanned 5 = .ok (.iconst 1, 1) := by decide +kernel
theorem dX12_isPlanned_6 : decode cX12_isPlanned 6 = .ok (.iadd, 1) := by decide +kernel
theorem dX12_isPlanned_7 : decode cX12_isPlanned 7 = .ok (.aload_n 0, 1) := by decide +kernel
theorem dX12_isPlanned_8 : decode cX12_isPlanned 8 = .ok (.getfield 112, 3) := by decide +kernel
theorem dX12_isPlanned_11 : decode cX12_isPlanned 11 = .ok (.iload_n 1, 1) := by decide +kernel
theorem dX12_isPlanned_12 : decode cX12_isPlanned 12 = .ok (.iaload, 1) := by decide +kernel
theorem dX12_isPlanned_13 : decode cX12_isPlanned 13 = .ok (.if_icmp .ge 45, 3) := by decide +kernel
theorem dX12_isPlanned_16 : decode cX12_isPlanned 16 = .ok (.aload_n 0, 1) := by decide +kernel
theorem dX12_isPlanned_17 : decode cX12_isPlanned 17 = .ok (.getfield 115, 3) := by decide +kernel
theorem dX12_isPlanned_20 : decode cX12_isPlanned 20 = .ok (.bipush 40, 2) := by decide +kernel
theorem dX12_isPlanned_22 : decode cX12_isPlanned 22 = .ok (.iload_n 1, 1) := by decide +kernel
theorem dX12_isPlanned_23 : decode cX12_isPlanned 23 = .ok (.imul, 1) := by decide +kernel
theorem dX12_isPlanned_24 : decode cX12_isPlanned 24 = .ok (.iload 4, 2) := by decide +kernel
theorem dX12_isPlanned_26 : decode cX12_isPlanned 26 = .ok (.iadd, 1) := by decide +kernel
theorem dX12_isPlanned_27 : decode cX12_isPlanned 27 = .ok (.iaload, 1) := by decide +kernel
theorem dX12_isPlanned_28 : decode cX12_isPlanned 28 = .ok (.iload_n 2, 1) := by decide +kernel
theorem dX12_isPlanned_29 : decode cX12_isPlanned 29 = .ok (.if_icmp .ne 23, 3) := by decide +kernel
theorem dX12_isPlanned_32 : decode cX12_isPlanned 32 = .ok (.aload_n 0, 1) := by decide +kernel
theorem dX12_isPlanned_33 : decode cX12_isPlanned 33 = .ok (.getfield 115, 3) := by decide +kernel
theorem dX12_isPlanned_36 : decode cX12_isPlanned 36 = .ok (.bipush 40, 2) := by decide +kernel
theorem dX12_isPlanned_38 : decode cX12_isPlanned 38 = .ok (.iload_n 1, 1) := by decide +kernel
theorem dX12_isPlanned_39 : decode cX12_isPlanned 39 = .ok (.imul, 1) := by decide +kernel
theorem dX12_isPlanned_40 : decode cX12_isPlanned 40 = .ok (.iload 4, 2) := by decide +kernel
theorem dX12_isPlanned_42 : decode cX12_isPlanned 42 = .ok (.iadd, 1) := by decide +kernel
theorem dX12_isPlanned_43 : decode cX12_isPlanned 43 = .ok (.iconst 1, 1) := by decide +kernel
theorem dX12_isPlanned_44 : decode cX12_isPlanned 44 = .ok (.iadd, 1) := by decide +kernel
theorem dX12_isPlanned_45 : decode cX12_isPlanned 45 = .ok (.iaload, 1) := by decide +kernel
theorem dX12_isPlanned_46 : decode cX12_isPlanned 46 = .ok (.iload_n 3, 1) := by decide +kernel
theorem dX12_isPlanned_47 : decode cX12_isPlanned 47 = .ok (.if_icmp .ne 5, 3) := by decide +kernel
theorem dX12_isPlanned_50 : decode cX12_isPlanned 50 = .ok (.iconst 1, 1) := by decide +kernel
theorem dX12_isPlanned_51 : decode cX12_isPlanned 51 = .ok (.ireturn, 1) := by decide +kernel
theorem dX12_isPlanned_52 : decode cX12_isPlanned 52 = .ok (.iinc 4 2, 3) := by decide +kernel
theorem dX12_isPlanned_55 : decode cX12_isPlanned 55 = .ok (.goto (-52), 3) := by decide +kernel
theorem dX12_isPlanned_58 : decode cX12_isPlanned 58 = .ok (.aload_n 0, 1) := by decide +kernel
theorem dX12_isPlanned_59 : decode cX12_isPlanned 59 = .ok (.getfield 238, 3) := by decide +kernel
theorem dX12_isPlanned_62 : decode cX12_isPlanned 62 = .ok (.iload_n 2, 1) := by decide +kernel
theorem dX12_isPlanned_63 : decode cX12_isPlanned 63 = .ok (.if_icmp .ne 15, 3) := by decide +kernel
theorem dX12_isPlanned_66 : decode cX12_isPlanned 66 = .ok (.aload_n 0, 1) := by decide +kernel
theorem dX12_isPlanned_67 : decode cX12_isPlanned 67 = .ok (.getfield 241, 3) := by decide +kernel
theorem dX12_isPlanned_70 : decode cX12_isPlanned 70 = .ok (.iload_n 3, 1) := by decide +kernel
theorem dX12_isPlanned_71 : decode cX12_isPlanned 71 = .ok (.if_icmp .ne 7, 3) := by decide +kernel
theorem dX12_isPlanned_74 : decode cX12_isPlanned 74 = .ok (.iconst 1, 1) := by decide +kernel
theorem dX12_isPlanned_75 : decode cX12_isPlanned 75 = .ok (.goto 4, 3) := by decide +kernel
theorem dX12_isPlanned_78 : decode cX12_isPlanned 78 = .ok (.iconst 0, 1) := by decide +kernel
theorem dX12_isPlanned_79 : decode cX12_isPlanned 79 = .ok (.ireturn, 1) := by decide +kernel
theorem dX12_findFacts_0 : decode cX12_findFacts 0 = .ok (.aload_n 0, 1) := by decide +kernel
theorem dX12_findFacts_1 : decode cX12_findFacts 1 = .ok (.getfield 60, 3) := by decide +kernel
theorem dX12_findFacts_4 : decode cX12_findFacts 4 = .ok (.iconst 0, 1) := by decide +kernel
theorem dX12_findFacts_5 : decode cX12_findFacts 5 = .ok (.aload_n 0, 1) := by decide +kernel
theorem dX12_findFacts_6 : decode cX12_findFacts 6 = .ok (.getfield 69, 3) := by decide +kernel
theorem dX12_findFacts_9 : decode cX12_findFacts 9 = .ok (.iload_n 1, 1) := by decide +kernel
theorem dX12_findFacts_10 : decode cX12_findFacts 10 = .ok (.iaload, 1) := by decide +kernel
theorem dX12_findFacts_11 : decode cX12_findFacts 11 = .ok (.iastore, 1) := by decide +kernel
theorem dX12_findFacts_12 : decode cX12_findFacts 12 = .ok (.aload_n 0, 1) := by decide +kernel
theorem dX12_findFacts_13 : decode cX12_findFacts 13 = .ok (.getfield 60, 3) := by decide +kernel
theorem dX12_findFacts_16 : decode cX12_findFacts 16 = .ok (.iconst 1, 1) := by decide +kernel
theorem dX12_findFacts_17 : decode cX12_findFacts 17 = .ok (.aload_n 0, 1) := by decide +kernel
theorem dX12_findFacts_18 : decode cX12_findFacts 18 = .ok (.iload_n 2, 1) := by decide +kernel
theorem dX12_findFacts_19 : decode cX12_findFacts 19 = .ok (.invokevirtual 244, 3) := by decide +kernel
theorem dX12_findFacts_22 : decode cX12_findFacts 22 = .ok (.iastore, 1) := by decide +kernel
theorem dX12_findFacts_23 : decode cX12_findFacts 23 = .ok (.aload_n 0, 1) := by decide +kernel
theorem dX12_findFacts_24 : decode cX12_findFacts 24 = .ok (.getfield 60, 3) := by decide +kernel
theorem dX12_findFacts_27 : decode cX12_findFacts 27 = .ok (.iconst 2, 1) := by decide +kernel
theorem dX12_findFacts_28 : decode cX12_findFacts 28 = .ok (.iload_n 2, 1) := by decide +kernel
theorem dX12_findFacts_29 : decode cX12_findFacts 29 = .ok (.iastore, 1) := by decide +kernel
theorem dX12_findFacts_30 : decode cX12_findFacts 30 = .ok (.aload_n 0, 1) := by decide +kernel
theorem dX12_findFacts_31 : decode cX12_findFacts 31 = .ok (.getfield 60, 3) := by decide +kernel
theorem dX12_findFacts_34 : decode cX12_findFacts 34 = .ok (.iconst 3, 1) := by decide +kernel
theorem dX12_findFacts_35 : decode cX12_findFacts 35 = .ok (.iconst 0, 1) := by decide +kernel
theorem dX12_findFacts_36 : decode cX12_findFacts 36 = .ok (.iastore, 1) := by decide +kernel
theorem dX12_findFacts_37 : decode cX12_findFacts 37 = .ok (.aload_n 0, 1) := by decide +kernel
theorem dX12_findFacts_38 : decode cX12_findFacts 38 = .ok (.getfield 60, 3) := by decide +kernel
theorem dX12_findFacts_41 : decode cX12_findFacts 41 = .ok (.iconst 4, 1) := by decide +kernel
theorem dX12_findFacts_42 : decode cX12_findFacts 42 = .ok (.iconst 0, 1) := by decide +kernel
theorem dX12_findFacts_43 : decode cX12_findFacts 43 = .ok (.iastore, 1) := by decide +kernel
theorem dX12_findFacts_44 : decode cX12_findFacts 44 = .ok (.aload_n 0, 1) := by decide +kernel
theorem dX12_findFacts_45 : decode cX12_findFacts 45 = .ok (.getfield 60, 3) := by decide +kernel
theorem dX12_findFacts_48 : decode cX12_findFacts 48 = .ok (.iconst 5, 1) := by decide +kernel
theorem dX12_findFacts_49 : decode cX12_findFacts 49 = .ok (.aload_n 0, 1) := by decide +kernel
theorem dX12_findFacts_50 : decode cX12_findFacts 50 = .ok (.getfield 75, 3) := by decide +kernel
theorem dX12_findFacts_53 : decode cX12_findFacts 53 = .ok (.iload_n 1, 1) := by decide +kernel
theorem dX12_findFacts_54 : decode cX12_findFacts 54 = .ok (.iaload, 1) := by decide +kernel
theorem dX12_findFacts_55 : decode cX12_findFacts 55 = .ok (.iastore, 1) := by decide +kernel
theorem dX12_findFacts_56 : decode cX12_findFacts 56 = .ok (.iconst 0, 1) := by decide +kernel
theorem dX12_findFacts_57 : decode cX12_findFacts 57 = .ok (.istore_n 3, 1) := by decide +kernel
theorem dX12_findFacts_58 : decode cX12_findFacts 58 = .ok (.iload_n 3, 1) := by decide +kernel
theorem dX12_findFacts_59 : decode cX12_findFacts 59 = .ok (.aload_n 0, 1) := by decide +kernel
theorem dX12_findFacts_60 : decode cX12_findFacts 60 = .ok (.getfield 124, 3) := by decide +kernel
theorem dX12_findFacts_63 : decode cX12_findFacts 63 = .ok (.if_icmp .ge 92, 3) := by decide +kernel
theorem dX12_findFacts_66 : decode cX12_findFacts 66 = .ok (.iload_n 3, 1) := by decide +kernel
theorem dX12_findFacts_67 : decode cX12_findFacts 67 = .ok (.iload_n 1, 1) := by decide +kernel
theorem dX12_findFacts_68 : decode cX12_findFacts 68 = .ok (.if_icmp .ne 6, 3) := by decide +kernel
theorem dX12_findFacts_71 : decode cX12_findFacts 71 = .ok (.goto 78, 3) := by decide +kernel
theorem dX12_findFacts_74 : decode cX12_findFacts 74 = .ok (.aload_n 0, 1) := by decide +kernel
theorem dX12_findFacts_75 : decode cX12_findFacts 75 = .ok (.getfield 29, 3) := by decide +kernel
theorem dX12_findFacts_78 : decode cX12_findFacts 78 = .ok (.iload_n 3, 1) := by decide +kernel
theorem dX12_findFacts_79 : decode cX12_findFacts 79 = .ok (.iaload, 1) := by decide +kernel
theorem dX12_findFacts_80 : decode cX12_findFacts 80 = .ok (.aload_n 0, 1) := by decide +kernel
theorem dX12_findFacts_81 : decode cX12_findFacts 81 = .ok (.getfield 29, 3) := by decide +kernel
theorem dX12_findFacts_84 : decode cX12_findFacts 84 = .ok (.iload_n 1, 1) := by decide +kernel
theorem dX12_findFacts_85 : decode cX12_findFacts 85 = .ok (.iaload, 1) := by decide +kernel
theorem dX12_findFacts_86 : decode cX12_findFacts 86 = .ok (.if_icmp .ne 26, 3) := by decide +kernel
theorem dX12_findFacts_89 : decode cX12_findFacts 89 = .ok (.iload_n 2, 1) := by decide +kernel
theorem dX12_findFacts_90 : decode cX12_findFacts 90 = .ok (.ifCond .eq 12, 3) := by decide +kernel
theorem dX12_findFacts_93 : decode cX12_findFacts 93 = .ok (.aload_n 0, 1) := by decide +kernel
theorem dX12_findFacts_94 : decode cX12_findFacts 94 = .ok (.getfield 82, 3) := by decide +kernel
theorem dX12_findFacts_97 : decode cX12_findFacts 97 = .ok (.iload_n 3, 1) := by decide +kernel
theorem dX12_findFacts_98 : decode cX12_findFacts 98 = .ok (.baload, 1) := by decide +kernel
theorem dX12_findFacts_99 : decode cX12_findFacts 99 = .ok (.ifCond .eq 13, 3) := by decide +kernel
theorem dX12_findFacts_102 : decode cX12_findFacts 102 = .ok (.aload_n 0, 1) := by decide +kernel
theorem dX12_findFacts_103 : decode cX12_findFacts 103 = .ok (.getfield 60, 3) := by decide +kernel
theorem dX12_findFacts_106 : decode cX12_findFacts 106 = .ok (.iconst 3, 1) := by decide +kernel
theorem dX12_findFacts_107 : decode cX12_findFacts 107 = .ok (.dup2, 1) := by decide +kernel
theorem dX12_findFacts_108 : decode cX12_findFacts 108 = .ok (.iaload, 1) := by decide +kernel
theorem dX12_findFacts_109 : decode cX12_findFacts 109 = .ok (.iconst 1, 1) := by decide +kernel
theorem dX12_findFacts_110 : decode cX12_findFacts 110 = .ok (.iadd, 1) := by decide +kernel
theorem dX12_findFacts_111 : decode cX12_findFacts 111 = .ok (.iastore, 1) := by decide +kernel
theorem dX12_findFacts_112 : decode cX12_findFacts 112 = .ok (.iload_n 3, 1) := by decide +kernel
theorem dX12_findFacts_113 : decode cX12_findFacts 113 = .ok (.iload_n 1, 1) := by decide +kernel
theorem dX12_findFacts_114 : decode cX12_findFacts 114 = .ok (.iconst 1, 1) := by decide +kernel
theorem dX12_findFacts_115 : decode cX12_findFacts 115 = .ok (.isub, 1) := by decide +kernel
theorem dX12_findFacts_116 : decode cX12_findFacts 116 = .ok (.if_icmp .eq 10, 3) := by decide +kernel
theorem dX12_findFacts_119 : decode cX12_findFacts 119 = .ok (.iload_n 3, 1) := by decide +kernel
theorem dX12_findFacts_120 : decode cX12_findFacts 120 = .ok (.iload_n 1, 1) := by decide +kernel
theorem dX12_findFacts_121 : decode cX12_findFacts 121 = .ok (.iconst 1, 1) := by decide +kernel
theorem dX12_findFacts_122 : decode cX12_findFacts 122 = .ok (.iadd, 1) := by decide +kernel
theorem dX12_findFacts_123 : decode cX12_findFacts 123 = .ok (.if_icmp .ne 26, 3) := by decide +kernel
theorem dX12_findFacts_126 : decode cX12_findFacts 126 = .ok (.iload_n 2, 1) := by decide +kernel
theorem dX12_findFacts_127 : decode cX12_findFacts 127 = .ok (.ifCond .le 22, 3) := by decide +kernel
theorem dX12_findFacts_130 : decode cX12_findFacts 130 = .ok (.aload_n 0, 1) := by decide +kernel
theorem dX12_findFacts_131 : decode cX12_findFacts 131 = .ok (.getfield 82, 3) := by decide +kernel
theorem dX12_findFacts_134 : decode cX12_findFacts 134 = .ok (.iload_n 3, 1) := by decide +kernel
theorem dX12_findFacts_135 : decode cX12_findFacts 135 = .ok (.baload, 1) := by decide +kernel
theorem dX12_findFacts_136 : decode cX12_findFacts 136 = .ok (.ifCond .ne 13, 3) := by decide +kernel
theorem dX12_findFacts_139 : decode cX12_findFacts 139 = .ok (.aload_n 0, 1) := by decide +kernel
theorem dX12_findFacts_140 : decode cX12_findFacts 140 = .ok (.getfield 60, 3) := by decide +kernel
theorem dX12_findFacts_143 : decode cX12_findFacts 143 = .ok (.iconst 4, 1) := by decide +kernel
theorem dX12_findFacts_144 : decode cX12_findFacts 144 = .ok (.dup2, 1) := by decide +kernel
theorem dX12_findFacts_145 : decode cX12_findFacts 145 = .ok (.iaload, 1) := by decide +kernel
theorem dX12_findFacts_146 : decode cX12_findFacts 146 = .ok (.iconst 1, 1) := by decide +kernel
theorem dX12_findFacts_147 : decode cX12_findFacts 147 = .ok (.iadd, 1) := by decide +kernel
theorem dX12_findFacts_148 : decode cX12_findFacts 148 = .ok (.iastore, 1) := by decide +kernel
theorem dX12_findFacts_149 : decode cX12_findFacts 149 = .ok (.iinc 3 1, 3) := by decide +kernel
theorem dX12_findFacts_152 : decode cX12_findFacts 152 = .ok (.goto (-94), 3) := by decide +kernel
theorem dX12_findFacts_155 : decode cX12_findFacts 155 = .ok (.return_, 1) := by decide +kernel
theorem dX12_breathes_0 : decode cX12_breathes 0 = .ok (.iload_n 1, 1) := by decide +kernel
theorem dX12_breathes_1 : decode cX12_breathes 1 = .ok (.iconst 1, 1) := by decide +kernel
theorem dX12_breathes_2 : decode cX12_breathes 2 = .ok (.if_icmp .ne 19, 3) := by decide +kernel
theorem dX12_breathes_5 : decode cX12_breathes 5 = .ok (.aload_n 0, 1) := by decide +kernel
theorem dX12_breathes_6 : decode cX12_breathes 6 = .ok (.getfield 17, 3) := by decide +kernel
theorem dX12_breathes_9 : decode cX12_breathes 9 = .ok (.iload_n 3, 1) := by decide +kernel
theorem dX12_breathes_10 : decode cX12_breathes 10 = .ok (.iaload, 1) := by decide +kernel
theorem dX12_breathes_11 : decode cX12_breathes 11 = .ok (.iconst 1, 1) := by decide +kernel
theorem dX12_breathes_12 : decode cX12_breathes 12 = .ok (.if_icmp .ne 7, 3) := by decide +kernel
theorem dX12_breathes_15 : decode cX12_breathes 15 = .ok (.iconst 1, 1) := by decide +kernel
theorem dX12_breathes_16 : decode cX12_breathes 16 = .ok (.goto 4, 3) := by decide +kernel
theorem dX12_breathes_19 : decode cX12_breathes 19 = .ok (.iconst 0, 1) := by decide +kernel
theorem dX12_breathes_20 : decode cX12_breathes 20 = .ok (.ireturn, 1) := by decide +kernel
theorem dX12_breathes_21 : decode cX12_breathes 21 = .ok (.iload_n 1, 1) := by decide +kernel
theorem dX12_breathes_22 : decode cX12_breathes 22 = .ok (.iconst 2, 1) := by decide +kernel
theorem dX12_breathes_23 : decode cX12_breathes 23 = .ok (.iconst 5, 1) := by decide +kernel
theorem dX12_breathes_24 : decode cX12_breathes 24 = .ok (.invokestatic 127, 3) := by decide +kernel
theorem dX12_breathes_27 : decode cX12_breathes 27 = .ok (.ifCond .eq 13, 3) := by decide +kernel
theorem dX12_breathes_30 : decode cX12_breathes 30 = .ok (.aload_n 0, 1) := by decide +kernel
theorem dX12_breathes_31 : decode cX12_breathes 31 = .ok (.iload_n 1, 1) := by decide +kernel
theorem dX12_breathes_32 : decode cX12_breathes 32 = .ok (.iconst 2, 1) := by decide +kernel
theorem dX12_breathes_33 : decode cX12_breathes 33 = .ok (.isub, 1) := by decide +kernel
theorem dX12_breathes_34 : decode cX12_breathes 34 = .ok (.iload_n 2, 1) := by decide +kernel
theorem dX12_breathes_35 : decode cX12_breathes 35 = .ok (.iload_n 3, 1) := by decide +kernel
theorem dX12_breathes_36 : decode cX12_breathes 36 = .ok (.invokevirtual 248, 3) := by decide +kernel
theorem dX12_breathes_39 : decode cX12_breathes 39 = .ok (.ireturn, 1) := by decide +kernel
theorem dX12_breathes_40 : decode cX12_breathes 40 = .ok (.aload_n 0, 1) := by decide +kernel
theorem dX12_breathes_41 : decode cX12_breathes 41 = .ok (.getfield 69, 3) := by decide +kernel
theorem dX12_breathes_44 : decode cX12_breathes 44 = .ok (.iload_n 2, 1) := by decide +kernel
theorem dX12_breathes_45 : decode cX12_breathes 45 = .ok (.iaload, 1) := by decide +kernel
theorem dX12_breathes_46 : decode cX12_breathes 46 = .ok (.aload_n 0, 1) := by decide +kernel
theorem dX12_breathes_47 : decode cX12_breathes 47 = .ok (.iload_n 2, 1) := by decide +kernel
theorem dX12_breathes_48 : decode cX12_breathes 48 = .ok (.aload_n 0, 1) := by decide +kernel
theorem dX12_breathes_49 : decode cX12_breathes 49 = .ok (.getfield 75, 3) := by decide +kernel
theorem dX12_breathes_52 : decode cX12_breathes 52 = .ok (.iload_n 2, 1) := by decide +kernel
theorem dX12_breathes_53 : decode cX12_breathes 53 = .ok (.iaload, 1) := by decide +kernel
theorem dX12_breathes_54 : decode cX12_breathes 54 = .ok (.aload_n 0, 1) := by decide +kernel
theorem dX12_breathes_55 : decode cX12_breathes 55 = .ok (.iload_n 3, 1) := by decide +kernel
theorem dX12_breathes_56 : decode cX12_breathes 56 = .ok (.invokevirtual 244, 3) := by decide +kernel
theorem dX12_breathes_59 : decode cX12_breathes 59 = .ok (.invokevirtual 138, 3) := by decide +kernel
theorem dX12_breathes_62 : decode cX12_breathes 62 = .ok (.if_icmp .lt 5, 3) := by decide +kernel
theorem dX12_breathes_65 : decode cX12_breathes 65 = .ok (.iconst 1, 1) := by decide +kernel
theorem dX12_breathes_66 : decode cX12_breathes 66 = .ok (.ireturn, 1) := by decide +kernel
theorem dX12_breathes_67 : decode cX12_breathes 67 = .ok (.iload_n 1, 1) := by decide +kernel
theorem dX12_breathes_68 : decode cX12_breathes 68 = .ok (.bipush 6, 2) := by decide +kernel
theorem dX12_breathes_70 : decode cX12_breathes 70 = .ok (.if_icmp .ne 5, 3) := by decide +kernel
theorem dX12_breathes_73 : decode cX12_breathes 73 = .ok (.iconst 0, 1) := by decide +kernel
theorem dX12_breathes_74 : decode cX12_breathes 74 = .ok (.ireturn, 1) := by decide +kernel
theorem dX12_breathes_75 : decode cX12_breathes 75 = .ok (.aload_n 0, 1) := by decide +kernel
theorem dX12_breathes_76 : decode cX12_breathes 76 = .ok (.iload_n 2, 1) := by decide +kernel
theorem dX12_breathes_77 : decode cX12_breathes 77 = .ok (.iload_n 3, 1) := by decide +kernel
theorem dX12_breathes_78 : decode cX12_breathes 78 = .ok (.invokevirtual 251, 3) := by decide +kernel
theorem dX12_breathes_81 : decode cX12_breathes 81 = .ok (.aload_n 0, 1) := by decide +kernel
theorem dX12_breathes_82 : decode cX12_breathes 82 = .ok (.iconst 0, 1) := by decide +kernel
theorem dX12_breathes_83 : decode cX12_breathes 83 = .ok (.invokevirtual 254, 3) := by decide +kernel
theorem dX12_breathes_86 : decode cX12_breathes 86 = .ok (.ifCond .eq 5, 3) := by decide +kernel
theorem dX12_breathes_89 : decode cX12_breathes 89 = .ok (.iconst 1, 1) := by decide +kernel
theorem dX12_breathes_90 : decode cX12_breathes 90 = .ok (.ireturn, 1) := by decide +kernel
theorem dX12_breathes_91 : decode cX12_breathes 91 = .ok (.aload_n 0, 1) := by decide +kernel
theorem dX12_breathes_92 : decode cX12_breathes 92 = .ok (.iconst 1, 1) := by decide +kernel
theorem dX12_breathes_93 : decode cX12_breathes 93 = .ok (.invokevirtual 254, 3) := by decide +kernel
theorem dX12_breathes_96 : decode cX12_breathes 96 = .ok (.ifCond .eq 36, 3) := by decide +kernel
theorem dX12_breathes_99 : decode cX12_breathes 99 = .ok (.aload_n 0, 1) := by decide +kernel
theorem dX12_breathes_100 : decode cX12_breathes 100 = .ok (.getfield 60, 3) := by decide +kernel
theorem dX12_breathes_103 : decode cX12_breathes 103 = .ok (.iconst 3, 1) := by decide +kernel
theorem dX12_breathes_104 : decode cX12_breathes 104 = .ok (.iaload, 1) := by decide +kernel
theorem dX12_breathes_105 : decode cX12_breathes 105 = .ok (.aload_n 0, 1) := by decide +kernel
theorem dX12_breathes_106 : decode cX12_breathes 106 = .ok (.getfield 23, 3) := by decide +kernel
theorem dX12_breathes_109 : decode cX12_breathes 109 = .ok (.aload_n 0, 1) := by decide +kernel
theorem dX12_breathes_110 : decode cX12_breathes 110 = .ok (.getfield 29, 3) := by decide +kernel
theorem dX12_breathes_113 : decode cX12_breathes 113 = .ok (.iload_n 2, 1) := by decide +kernel
theorem dX12_breathes_114 : decode cX12_breathes 114 = .ok (.iaload, 1) := by decide +kernel
theorem dX12_breathes_115 : decode cX12_breathes 115 = .ok (.iaload, 1) := by decide +kernel
theorem dX12_breathes_116 : decode cX12_breathes 116 = .ok (.if_icmp .lt 16, 3) := by decide +kernel
theorem dX12_breathes_119 : decode cX12_breathes 119 = .ok (.aload_n 0, 1) := by decide +kernel
theorem dX12_breathes_120 : decode cX12_breathes 120 = .ok (.getfield 60, 3) := by decide +kernel
theorem dX12_breathes_123 : decode cX12_breathes 123 = .ok (.iconst 4, 1) := by decide +kernel
theorem dX12_breathes_124 : decode cX12_breathes 124 = .ok (.iaload, 1) := by decide +kernel
theorem dX12_breathes_125 : decode cX12_breathes 125 = .ok (.ifCond .ne 7, 3) := by decide +kernel
theorem dX12_breathes_128 : decode cX12_breathes 128 = .ok (.iconst 1, 1) := by decide +kernel
theorem dX12_breathes_129 : decode cX12_breathes 129 = .ok (.goto 4, 3) := by decide +kernel
theorem dX12_breathes_132 : decode cX12_breathes 132 = .ok (.iconst 0, 1) := by decide +kernel
theorem dX12_breathes_133 : decode cX12_breathes 133 = .ok (.ireturn, 1) := by decide +kernel
theorem dX12_go_0 : decode cX12_go 0 = .ok (.iconst 0, 1) := by decide +kernel
theorem dX12_go_1 : decode cX12_go 1 = .ok (.istore_n 3, 1) := by decide +kernel
theorem dX12_go_2 : decode cX12_go 2 = .ok (.iload_n 3, 1) := by decide +kernel
theorem dX12_go_3 : decode cX12_go 3 = .ok (.aload_n 0, 1) := by decide +kernel
theorem dX12_go_4 : decode cX12_go 4 = .ok (.getfield 124, 3) := by decide +kernel
theorem dX12_go_7 : decode cX12_go 7 = .ok (.if_icmp .ge 21, 3) := by decide +kernel
theorem dX12_go_10 : decode cX12_go 10 = .ok (.aload_n 0, 1) := by decide +kernel
theorem dX12_go_11 : decode cX12_go 11 = .ok (.getfield 82, 3) := by decide +kernel
theorem dX12_go_14 : decode cX12_go 14 = .ok (.iload_n 3, 1) := by decide +kernel
theorem dX12_go_15 : decode cX12_go 15 = .ok (.aload_n 0, 1) := by decide +kernel
theorem dX12_go_16 : decode cX12_go 16 = .ok (.getfield 78, 3) := by decide +kernel
theorem dX12_go_19 : decode cX12_go 19 = .ok (.iload_n 3, 1) := by decide +kernel
theorem dX12_go_20 : decode cX12_go 20 = .ok (.baload, 1) := by decide +kernel
theorem dX12_go_21 : decode cX12_go 21 = .ok (.bastore, 1) := by decide +kernel
theorem dX12_go_22 : decode cX12_go 22 = .ok (.iinc 3 1, 3) := by decide +kernel
theorem dX12_go_25 : decode cX12_go 25 = .ok (.goto (-23), 3) := by decide +kernel
theorem dX12_go_28 : decode cX12_go 28 = .ok (.iconst 0, 1) := by decide +kernel
theorem dX12_go_29 : decode cX12_go 29 = .ok (.istore_n 3, 1) := by decide +kernel
theorem dX12_go_30 : decode cX12_go 30 = .ok (.iload_n 3, 1) := by decide +kernel
theorem dX12_go_31 : decode cX12_go 31 = .ok (.aload_n 0, 1) := by decide +kernel
theorem dX12_go_32 : decode cX12_go 32 = .ok (.getfield 124, 3) := by decide +kernel
theorem dX12_go_35 : decode cX12_go 35 = .ok (.if_icmp .ge 154, 3) := by decide +kernel
theorem dX12_go_38 : decode cX12_go 38 = .ok (.iload_n 3, 1) := by decide +kernel
theorem dX12_go_39 : decode cX12_go 39 = .ok (.aload_n 0, 1) := by decide +kernel
theorem dX12_go_40 : decode cX12_go 40 = .ok (.getfield 235, 3) := by decide +kernel
theorem dX12_go_43 : decode cX12_go 43 = .ok (.if_icmp .ne 35, 3) := by decide +kernel
theorem dX12_go_46 : decode cX12_go 46 = .ok (.iload_n 2, 1) := by decide +kernel
theorem dX12_go_47 : decode cX12_go 47 = .ok (.aload_n 0, 1) := by decide +kernel
theorem dX12_go_48 : decode cX12_go 48 = .ok (.getfield 257, 3) := by decide +kernel
theorem dX12_go_51 : decode cX12_go 51 = .ok (.if_icmp .lt 27, 3) := by decide +kernel
theorem dX12_go_54 : decode cX12_go 54 = .ok (.aload_n 0, 1) := by decide +kernel
theorem dX12_go_55 : decode cX12_go 55 = .ok (.getfield 78, 3) := by decide +kernel
theorem dX12_go_58 : decode cX12_go 58 = .ok (.iload_n 3, 1) := by decide +kernel
theorem dX12_go_59 : decode cX12_go 59 = .ok (.iconst 0, 1) := by decide +kernel
theorem dX12_go_60 : decode cX12_go 60 = .ok (.bastore, 1) := by decide +kernel
theorem dX12_go_61 : decode cX12_go 61 = .ok (.aload_n 0, 1) := by decide +kernel
theorem dX12_go_62 : decode cX12_go 62 = .ok (.getfield 69, 3) := by decide +kernel
theorem dX12_go_65 : decode cX12_go 65 = .ok (.iload_n 3, 1) := by decide +kernel
theorem dX12_go_66 : decode cX12_go 66 = .ok (.iconst 0, 1) := by decide +kernel
theorem dX12_go_67 : decode cX12_go 67 = .ok (.iastore, 1) := by decide +kernel
theorem dX12_go_68 : decode cX12_go 68 = .ok (.aload_n 0, 1) := by decide +kernel
theorem dX12_go_69 : decode cX12_go 69 = .ok (.getfield 72, 3) := by decide +kernel
theorem dX12_go_72 : decode cX12_go 72 = .ok (.iload_n 3, 1) := by decide +kernel
theorem dX12_go_73 : decode cX12_go 73 = .ok (.iconst 0, 1) := by decide +kernel
theorem dX12_go_74 : decode cX12_go 74 = .ok (.iastore, 1) := by decide +kernel
theorem dX12_go_75 : decode cX12_go 75 = .ok (.goto 108, 3) := by decide +kernel
theorem dX12_go_78 : decode cX12_go 78 = .ok (.aload_n 0, 1) := by decide +kernel
theorem dX12_go_79 : decode cX12_go 79 = .ok (.getfield 72, 3) := by decide +kernel
theorem dX12_go_82 : decode cX12_go 82 = .ok (.iload_n 3, 1) := by decide +kernel
theorem dX12_go_83 : decode cX12_go 83 = .ok (.iaload, 1) := by decide +kernel
theorem dX12_go_84 : decode cX12_go 84 = .ok (.ifCond .ne 40, 3) := by decide +kernel
theorem dX12_go_87 : decode cX12_go 87 = .ok (.aload_n 0, 1) := by decide +kernel
theorem dX12_go_88 : decode cX12_go 88 = .ok (.iload_n 1, 1) := by decide +kernel
theorem dX12_go_89 : decode cX12_go 89 = .ok (.iload_n 3, 1) := by decide +kernel
theorem dX12_go_90 : decode cX12_go 90 = .ok (.iload_n 2, 1) := by decide +kernel
theorem dX12_go_91 : decode cX12_go 91 = .ok (.invokevirtual 260, 3) := by decide +kernel
theorem dX12_go_94 : decode cX12_go 94 = .ok (.ifCond .eq 30, 3) := by decide +kernel
theorem dX12_go_97 : decode cX12_go 97 = .ok (.aload_n 0, 1) := by decide +kernel
theorem dX12_go_98 : decode cX12_go 98 = .ok (.getfield 72, 3) := by decide +kernel
theorem dX12_go_101 : decode cX12_go 101 = .ok (.iload_n 3, 1) := by decide +kernel
theorem dX12_go_102 : decode cX12_go 102 = .ok (.aload_n 0, 1) := by decide +kernel
theorem dX12_go_103 : decode cX12_go 103 = .ok (.iload_n 3, 1) := by decide +kernel
theorem dX12_go_104 : decode cX12_go 104 = .ok (.aload_n 0, 1) := by decide +kernel
theorem dX12_go_105 : decode cX12_go 105 = .ok (.getfield 75, 3) := by decide +kernel
theorem dX12_go_108 : decode cX12_go 108 = .ok (.iload_n 3, 1) := by decide +kernel
theorem dX12_go_109 : decode cX12_go 109 = .ok (.iaload, 1) := by decide +kernel
theorem dX12_go_110 : decode cX12_go 110 = .ok (.invokevirtual 142, 3) := by decide +kernel
theorem dX12_go_113 : decode cX12_go 113 = .ok (.iastore, 1) := by decide +kernel
theorem dX12_go_114 : decode cX12_go 114 = .ok (.aload_n 0, 1) := by decide +kernel
theorem dX12_go_115 : decode cX12_go 115 = .ok (.getfield 75, 3) := by decide +kernel
theorem dX12_go_118 : decode cX12_go 118 = .ok (.iload_n 3, 1) := by decide +kernel
theorem dX12_go_119 : decode cX12_go 119 = .ok (.dup2, 1) := by decide +kernel
theorem dX12_go_120 : decode cX12_go 120 = .ok (.iaload, 1) := by decide +kernel
theorem dX12_go_121 : decode cX12_go 121 = .ok (.iconst 1, 1) := by decide +kernel
theorem dX12_go_122 : decode cX12_go 122 = .ok (.iadd, 1) := by decide +kernel
theorem dX12_go_123 : decode cX12_go 123 = .ok (.iastore, 1) := by decide +kernel
theorem dX12_go_124 : decode cX12_go 124 = .ok (.aload_n 0, 1) := by decide +kernel
theorem dX12_go_125 : decode cX12_go 125 = .ok (.getfield 78, 3) := by decide +kernel
theorem dX12_go_128 : decode cX12_go 128 = .ok (.iload_n 3, 1) := by decide +kernel
theorem dX12_go_129 : decode cX12_go 129 = .ok (.aload_n 0, 1) := by decide +kernel
theorem dX12_go_130 : decode cX12_go 130 = .ok (.getfield 72, 3) := by decide +kernel
theorem dX12_go_133 : decode cX12_go 133 = .ok (.iload_n 3, 1) := by decide +kernel
theorem dX12_go_134 : decode cX12_go 134 = .ok (.iaload, 1) := by decide +kernel
theorem dX12_go_135 : decode cX12_go 135 = .ok (.ifCond .ne 7, 3) := by decide +kernel
theorem dX12_go_138 : decode cX12_go 138 = .ok (.iconst 1, 1) := by decide +kernel
theorem dX12_go_139 : decode cX12_go 139 = .ok (.goto 4, 3) := by decide +kernel
theorem dX12_go_142 : decode cX12_go 142 = .ok (.iconst 0, 1) := by decide +kernel
theorem dX12_go_143 : decode cX12_go 143 = .ok (.bastore, 1) := by decide +kernel
theorem dX12_go_144 : decode cX12_go 144 = .ok (.aload_n 0, 1) := by decide +kernel
theorem dX12_go_145 : decode cX12_go 145 = .ok (.getfield 78, 3) := by decide +kernel
theorem dX12_go_148 : decode cX12_go 148 = .ok (.iload_n 3, 1) := by decide +kernel
theorem dX12_go_149 : decode cX12_go 149 = .ok (.baload, 1) := by decide +kernel
theorem dX12_go_150 : decode cX12_go 150 = .ok (.ifCond .eq 16, 3) := by decide +kernel
theorem dX12_go_153 : decode cX12_go 153 = .ok (.aload_n 0, 1) := by decide +kernel
theorem dX12_go_154 : decode cX12_go 154 = .ok (.getfield 69, 3) := by decide +kernel
theorem dX12_go_157 : decode cX12_go 157 = .ok (.iload_n 3, 1) := by decide +kernel
theorem dX12_go_158 : decode cX12_go 158 = .ok (.dup2, 1) := by decide +kernel
theorem dX12_go_159 : decode cX12_go 159 = .ok (.iaload, 1) := by decide +kernel
theorem dX12_go_160 : decode cX12_go 160 = .ok (.iconst 1, 1) := by decide +kernel
theorem dX12_go_161 : decode cX12_go 161 = .ok (.iadd, 1) := by decide +kernel
theorem dX12_go_162 : decode cX12_go 162 = .ok (.iastore, 1) := by decide +kernel
theorem dX12_go_163 : decode cX12_go 163 = .ok (.goto 20, 3) := by decide +kernel
theorem dX12_go_166 : decode cX12_go 166 = .ok (.aload_n 0, 1) := by decide +kernel
theorem dX12_go_167 : decode cX12_go 167 = .ok (.getfield 72, 3) := by decide +kernel
theorem dX12_go_170 : decode cX12_go 170 = .ok (.iload_n 3, 1) := by decide +kernel
theorem dX12_go_171 : decode cX12_go 171 = .ok (.dup2, 1) := by decide +kernel
theorem dX12_go_172 : decode cX12_go 172 = .ok (.iaload, 1) := by decide +kernel
theorem dX12_go_173 : decode cX12_go 173 = .ok (.iconst 1, 1) := by decide +kernel
theorem dX12_go_174 : decode cX12_go 174 = .ok (.isub, 1) := by decide +kernel
theorem dX12_go_175 : decode cX12_go 175 = .ok (.iastore, 1) := by decide +kernel
theorem dX12_go_176 : decode cX12_go 176 = .ok (.aload_n 0, 1) := by decide +kernel
theorem dX12_go_177 : decode cX12_go 177 = .ok (.getfield 69, 3) := by decide +kernel
theorem dX12_go_180 : decode cX12_go 180 = .ok (.iload_n 3, 1) := by decide +kernel
theorem dX12_go_181 : decode cX12_go 181 = .ok (.iconst 0, 1) := by decide +kernel
theorem dX12_go_182 : decode cX12_go 182 = .ok (.iastore, 1) := by decide +kernel
theorem dX12_go_183 : decode cX12_go 183 = .ok (.iinc 3 1, 3) := by decide +kernel
theorem dX12_go_186 : decode cX12_go 186 = .ok (.goto (-156), 3) := by decide +kernel
theorem dX12_go_189 : decode cX12_go 189 = .ok (.return_, 1) := by decide +kernel
theorem dX12_ofVoice_0 : decode cX12_ofVoice 0 = .ok (.iconst 0, 1) := by decide +kernel
theorem dX12_ofVoice_1 : decode cX12_ofVoice 1 = .ok (.istore_n 2, 1) := by decide +kernel
theorem dX12_ofVoice_2 : decode cX12_ofVoice 2 = .ok (.iconst 0, 1) := by decide +kernel
theorem dX12_ofVoice_3 : decode cX12_ofVoice 3 = .ok (.istore_n 3, 1) := by decide +kernel
theorem dX12_ofVoice_4 : decode cX12_ofVoice 4 = .ok (.iload_n 3, 1) := by decide +kernel
theorem dX12_ofVoice_5 : decode cX12_ofVoice 5 = .ok (.aload_n 0, 1) := by decide +kernel
theorem dX12_ofVoice_6 : decode cX12_ofVoice 6 = .ok (.getfield 124, 3) := by decide +kernel
theorem dX12_ofVoice_9 : decode cX12_ofVoice 9 = .ok (.if_icmp .ge 36, 3) := by decide +kernel
theorem dX12_ofVoice_12 : decode cX12_ofVoice 12 = .ok (.iload_n 2, 1) := by decide +kernel
theorem dX12_ofVoice_13 : decode cX12_ofVoice 13 = .ok (.aload_n 0, 1) := by decide +kernel
theorem dX12_ofVoice_14 : decode cX12_ofVoice 14 = .ok (.getfield 78, 3) := by decide +kernel
theorem dX12_ofVoice_17 : decode cX12_ofVoice 17 = .ok (.iload_n 3, 1) := by decide +kernel
theorem dX12_ofVoice_18 : decode cX12_ofVoice 18 = .ok (.baload, 1) := by decide +kernel
theorem dX12_ofVoice_19 : decode cX12_ofVoice 19 = .ok (.ifCond .eq 17, 3) := by decide +kernel
theorem dX12_ofVoice_22 : decode cX12_ofVoice 22 = .ok (.aload_n 0, 1) := by decide +kernel
theorem dX12_ofVoice_23 : decode cX12_ofVoice 23 = .ok (.getfield 29, 3) := by decide +kernel
theorem dX12_ofVoice_26 : decode cX12_ofVoice 26 = .ok (.iload_n 3, 1) := by decide +kernel
theorem dX12_ofVoice_27 : decode cX12_ofVoice 27 = .ok (.iaload, 1) := by decide +kernel
theorem dX12_ofVoice_28 : decode cX12_ofVoice 28 = .ok (.iload_n 1, 1) := by decide +kernel
theorem dX12_ofVoice_29 : decode cX12_ofVoice 29 = .ok (.if_icmp .ne 7, 3) := by decide +kernel
theorem dX12_ofVoice_32 : decode cX12_ofVoice 32 = .ok (.iconst 1, 1) := by decide +kernel
theorem dX12_ofVoice_33 : decode cX12_ofVoice 33 = .ok (.goto 4, 3) := by decide +kernel
theorem dX12_ofVoice_36 : decode cX12_ofVoice 36 = .ok (.iconst 0, 1) := by decide +kernel
theorem dX12_ofVoice_37 : decode cX12_ofVoice 37 = .ok (.iadd, 1) := by decide +kernel
theorem dX12_ofVoice_38 : decode cX12_ofVoice 38 = .ok (.istore_n 2, 1) := by decide +kernel
theorem dX12_ofVoice_39 : decode cX12_ofVoice 39 = .ok (.iinc 3 1, 3) := by decide +kernel
theorem dX12_ofVoice_42 : decode cX12_ofVoice 42 = .ok (.goto (-38), 3) := by decide +kernel
theorem dX12_ofVoice_45 : decode cX12_ofVoice 45 = .ok (.iload_n 2, 1) := by decide +kernel
theorem dX12_ofVoice_46 : decode cX12_ofVoice 46 = .ok (.ireturn, 1) := by decide +kernel
theorem dX12_sing_0 : decode cX12_sing 0 = .ok (.aload_n 0, 1) := by decide +kernel
theorem dX12_sing_1 : decode cX12_sing 1 = .ok (.iload_n 1, 1) := by decide +kernel
theorem dX12_sing_2 : decode cX12_sing 2 = .ok (.invokevirtual 263, 3) := by decide +kernel
theorem dX12_sing_5 : decode cX12_sing 5 = .ok (.ifCond .eq 11, 3) := by decide +kernel
theorem dX12_sing_8 : decode cX12_sing 8 = .ok (.aload_n 0, 1) := by decide +kernel
theorem dX12_sing_9 : decode cX12_sing 9 = .ok (.iload_n 2, 1) := by decide +kernel
theorem dX12_sing_10 : decode cX12_sing 10 = .ok (.invokevirtual 266, 3) := by decide +kernel
theorem dX12_sing_13 : decode cX12_sing 13 = .ok (.ifCond .ne 6, 3) := by decide +kernel
theorem dX12_sing_16 : decode cX12_sing 16 = .ok (.bipush (-2), 2) := by decide +kernel
theorem dX12_sing_18 : decode cX12_sing 18 = .ok (.ireturn, 1) := by decide +kernel
theorem dX12_sing_19 : decode cX12_sing 19 = .ok (.aload_n 0, 1) := by decide +kernel
theorem dX12_sing_20 : decode cX12_sing 20 = .ok (.iload_n 1, 1) := by decide +kernel
theorem dX12_sing_21 : decode cX12_sing 21 = .ok (.invokevirtual 269, 3) := by decide +kernel
theorem dX12_sing_24 : decode cX12_sing 24 = .ok (.ifCond .eq 6, 3) := by decide +kernel
theorem dX12_sing_27 : decode cX12_sing 27 = .ok (.bipush (-11), 2) := by decide +kernel
theorem dX12_sing_29 : decode cX12_sing 29 = .ok (.ireturn, 1) := by decide +kernel
theorem dX12_sing_30 : decode cX12_sing 30 = .ok (.aload_n 0, 1) := by decide +kernel
theorem dX12_sing_31 : decode cX12_sing 31 = .ok (.invokevirtual 272, 3) := by decide +kernel
theorem dX12_sing_34 : decode cX12_sing 34 = .ok (.iconst 0, 1) := by decide +kernel
theorem dX12_sing_35 : decode cX12_sing 35 = .ok (.istore_n 3, 1) := by decide +kernel
theorem dX12_sing_36 : decode cX12_sing 36 = .ok (.iload_n 3, 1) := by decide +kernel
theorem dX12_sing_37 : decode cX12_sing 37 = .ok (.iload_n 2, 1) := by decide +kernel
theorem dX12_sing_38 : decode cX12_sing 38 = .ok (.if_icmp .gt 15, 3) := by decide +kernel
theorem dX12_sing_41 : decode cX12_sing 41 = .ok (.aload_n 0, 1) := by decide +kernel
theorem dX12_sing_42 : decode cX12_sing 42 = .ok (.iload_n 1, 1) := by decide +kernel
theorem dX12_sing_43 : decode cX12_sing 43 = .ok (.iload_n 3, 1) := by decide +kernel
theorem dX12_sing_44 : decode cX12_sing 44 = .ok (.invokevirtual 275, 3) := by decide +kernel
theorem dX12_sing_47 : decode cX12_sing 47 = .ok (.iinc 3 1, 3) := by decide +kernel
theorem dX12_sing_50 : decode cX12_sing 50 = .ok (.goto (-14), 3) := by decide +kernel
theorem dX12_sing_53 : decode cX12_sing 53 = .ok (.iconst 0, 1) := by decide +kernel
theorem dX12_sing_54 : decode cX12_sing 54 = .ok (.istore_n 3, 1) := by decide +kernel
theorem dX12_sing_55 : decode cX12_sing 55 = .ok (.iconst 0, 1) := by decide +kernel
theorem dX12_sing_56 : decode cX12_sing 56 = .ok (.istore 4, 2) := by decide +kernel
theorem dX12_sing_58 : decode cX12_sing 58 = .ok (.iload 4, 2) := by decide +kernel
theorem dX12_sing_60 : decode cX12_sing 60 = .ok (.aload_n 0, 1) := by decide +kernel
theorem dX12_sing_61 : decode cX12_sing 61 = .ok (.getfield 124, 3) := by decide +kernel
theorem dX12_sing_64 : decode cX12_sing 64 = .ok (.if_icmp .ge 26, 3) := by decide +kernel
theorem dX12_sing_67 : decode cX12_sing 67 = .ok (.aload_n 0, 1) := by decide +kernel
theorem dX12_sing_68 : decode cX12_sing 68 = .ok (.getfield 78, 3) := by decide +kernel
theorem dX12_sing_71 : decode cX12_sing 71 = .ok (.iload 4, 2) := by decide +kernel
theorem dX12_sing_73 : decode cX12_sing 73 = .ok (.baload, 1) := by decide +kernel
theorem dX12_sing_74 : decode cX12_sing 74 = .ok (.ifCond .eq 10, 3) := by decide +kernel
theorem dX12_sing_77 : decode cX12_sing 77 = .ok (.iload_n 3, 1) := by decide +kernel
theorem dX12_sing_78 : decode cX12_sing 78 = .ok (.iconst 1, 1) := by decide +kernel
theorem dX12_sing_79 : decode cX12_sing 79 = .ok (.iload 4, 2) := by decide +kernel
theorem dX12_sing_81 : decode cX12_sing 81 = .ok (.ishl, 1) := by decide +kernel
theorem dX12_sing_82 : decode cX12_sing 82 = .ok (.ior, 1) := by decide +kernel
theorem dX12_sing_83 : decode cX12_sing 83 = .ok (.istore_n 3, 1) := by decide +kernel
theorem dX12_sing_84 : decode cX12_sing 84 = .ok (.iinc 4 1, 3) := by decide +kernel
theorem dX12_sing_87 : decode cX12_sing 87 = .ok (.goto (-29), 3) := by decide +kernel
theorem dX12_sing_90 : decode cX12_sing 90 = .ok (.iload_n 3, 1) := by decide +kernel
theorem dX12_sing_91 : decode cX12_sing 91 = .ok (.ireturn, 1) := by decide +kernel
theorem dX12_of_0 : decode cX12_of 0 = .ok (.aload_n 0, 1) := by decide +kernel
theorem dX12_of_1 : decode cX12_of 1 = .ok (.iload_n 1, 1) := by decide +kernel
theorem dX12_of_2 : decode cX12_of 2 = .ok (.invokevirtual 263, 3) := by decide +kernel
theorem dX12_of_5 : decode cX12_of 5 = .ok (.ifCond .eq 20, 3) := by decide +kernel
theorem dX12_of_8 : decode cX12_of 8 = .ok (.aload_n 0, 1) := by decide +kernel
theorem dX12_of_9 : decode cX12_of 9 = .ok (.iload_n 2, 1) := by decide +kernel
theorem dX12_of_10 : decode cX12_of 10 = .ok (.invokevirtual 266, 3) := by decide +kernel
theorem dX12_of_13 : decode cX12_of 13 = .ok (.ifCond .eq 12, 3) := by decide +kernel
theorem dX12_of_16 : decode cX12_of 16 = .ok (.iload_n 3, 1) := by decide +kernel
theorem dX12_of_17 : decode cX12_of 17 = .ok (.iconst 0, 1) := by decide +kernel
theorem dX12_of_18 : decode cX12_of 18 = .ok (.iconst 3, 1) := by decide +kernel
theorem dX12_of_19 : decode cX12_of 19 = .ok (.invokestatic 127, 3) := by decide +kernel
theorem dX12_of_22 : decode cX12_of 22 = .ok (.ifCond .ne 6, 3) := by decide +kernel
theorem dX12_of_25 : decode cX12_of 25 = .ok (.bipush (-2), 2) := by decide +kernel
theorem dX12_of_27 : decode cX12_of 27 = .ok (.ireturn, 1) := by decide +kernel
theorem dX12_of_28 : decode cX12_of 28 = .ok (.aload_n 0, 1) := by decide +kernel
theorem dX12_of_29 : decode cX12_of 29 = .ok (.iload_n 1, 1) := by decide +kernel
theorem dX12_of_30 : decode cX12_of 30 = .ok (.invokevirtual 269, 3) := by decide +kernel
theorem dX12_of_33 : decode cX12_of 33 = .ok (.ifCond .eq 6, 3) := by decide +kernel
theorem dX12_of_36 : decode cX12_of 36 = .ok (.bipush (-11), 2) := by decide +kernel
theorem dX12_of_38 : decode cX12_of 38 = .ok (.ireturn, 1) := by decide +kernel
theorem dX12_of_39 : decode cX12_of 39 = .ok (.aload_n 0, 1) := by decide +kernel
theorem dX12_of_40 : decode cX12_of 40 = .ok (.invokevirtual 272, 3) := by decide +kernel
theorem dX12_of_43 : decode cX12_of 43 = .ok (.iconst 0, 1) := by decide +kernel
theorem dX12_of_44 : decode cX12_of 44 = .ok (.istore 4, 2) := by decide +kernel
theorem dX12_of_46 : decode cX12_of 46 = .ok (.iload 4, 2) := by decide +kernel
theorem dX12_of_48 : decode cX12_of 48 = .ok (.iload_n 2, 1) := by decide +kernel
theorem dX12_of_49 : decode cX12_of 49 = .ok (.if_icmp .gt 16, 3) := by decide +kernel
theorem dX12_of_52 : decode cX12_of 52 = .ok (.aload_n 0, 1) := by decide +kernel
theorem dX12_of_53 : decode cX12_of 53 = .ok (.iload_n 1, 1) := by decide +kernel
theorem dX12_of_54 : decode cX12_of 54 = .ok (.iload 4, 2) := by decide +kernel
theorem dX12_of_56 : decode cX12_of 56 = .ok (.invokevirtual 275, 3) := by decide +kernel
theorem dX12_of_59 : decode cX12_of 59 = .ok (.iinc 4 1, 3) := by decide +kernel
theorem dX12_of_62 : decode cX12_of 62 = .ok (.goto (-16), 3) := by decide +kernel
theorem dX12_of_65 : decode cX12_of 65 = .ok (.aload_n 0, 1) := by decide +kernel
theorem dX12_of_66 : decode cX12_of 66 = .ok (.iload_n 3, 1) := by decide +kernel
theorem dX12_of_67 : decode cX12_of 67 = .ok (.invokevirtual 278, 3) := by decide +kernel
theorem dX12_of_70 : decode cX12_of 70 = .ok (.ireturn, 1) := by decide +kernel
theorem dX12_lookThin_0 : decode cX12_lookThin 0 = .ok (.iconst 0, 1) := by decide +kernel
theorem dX12_lookThin_1 : decode cX12_lookThin 1 = .ok (.istore_n 1, 1) := by decide +kernel
theorem dX12_lookThin_2 : decode cX12_lookThin 2 = .ok (.iload_n 1, 1) := by decide +kernel
theorem dX12_lookThin_3 : decode cX12_lookThin 3 = .ok (.iconst 4, 1) := by decide +kernel
theorem dX12_lookThin_4 : decode cX12_lookThin 4 = .ok (.if_icmp .ge 41, 3) := by decide +kernel
theorem dX12_lookThin_7 : decode cX12_lookThin 7 = .ok (.aload_n 0, 1) := by decide +kernel
theorem dX12_lookThin_8 : decode cX12_lookThin 8 = .ok (.getfield 85, 3) := by decide +kernel
theorem dX12_lookThin_11 : decode cX12_lookThin 11 = .ok (.iload_n 1, 1) := by decide +kernel
theorem dX12_lookThin_12 : decode cX12_lookThin 12 = .ok (.aload_n 0, 1) := by decide +kernel
theorem dX12_lookThin_13 : decode cX12_lookThin 13 = .ok (.iload_n 1, 1) := by decide +kernel
theorem dX12_lookThin_14 : decode cX12_lookThin 14 = .ok (.invokevirtual 278, 3) := by decide +kernel
theorem dX12_lookThin_17 : decode cX12_lookThin 17 = .ok (.aload_n 0, 1) := by decide +kernel
theorem dX12_lookThin_18 : decode cX12_lookThin 18 = .ok (.getfield 23, 3) := by decide +kernel
theorem dX12_lookThin_21 : decode cX12_lookThin 21 = .ok (.iload_n 1, 1) := by decide +kernel
theorem dX12_lookThin_22 : decode cX12_lookThin 22 = .ok (.iaload, 1) := by decide +kernel
theorem dX12_lookThin_23 : decode cX12_lookThin 23 = .ok (.if_icmp .ge 14, 3) := by decide +kernel
theorem dX12_lookThin_26 : decode cX12_lookThin 26 = .ok (.aload_n 0, 1) := by decide +kernel
theorem dX12_lookThin_27 : decode cX12_lookThin 27 = .ok (.getfield 85, 3) := by decide +kernel
theorem dX12_lookThin_30 : decode cX12_lookThin 30 = .ok (.iload_n 1, 1) := by decide +kernel
theorem dX12_lookThin_31 : decode cX12_lookThin 31 = .ok (.iaload, 1) := by decide +kernel
theorem dX12_lookThin_32 : decode cX12_lookThin 32 = .ok (.iconst 1, 1) := by decide +kernel
theorem dX12_lookThin_33 : decode cX12_lookThin 33 = .ok (.iadd, 1) := by decide +kernel
theorem dX12_lookThin_34 : decode cX12_lookThin 34 = .ok (.goto 4, 3) := by decide +kernel
theorem dX12_lookThin_37 : decode cX12_lookThin 37 = .ok (.iconst 0, 1) := by decide +kernel
theorem dX12_lookThin_38 : decode cX12_lookThin 38 = .ok (.iastore, 1) := by decide +kernel
theorem dX12_lookThin_39 : decode cX12_lookThin 39 = .ok (.iinc 1 1, 3) := by decide +kernel
theorem dX12_lookThin_42 : decode cX12_lookThin 42 = .ok (.goto (-40), 3) := by decide +kernel
theorem dX12_lookThin_45 : decode cX12_lookThin 45 = .ok (.return_, 1) := by decide +kernel
theorem dX12_beginThin_0 : decode cX12_beginThin 0 = .ok (.iconst 0, 1) := by decide +kernel
theorem dX12_beginThin_1 : decode cX12_beginThin 1 = .ok (.istore_n 1, 1) := by decide +kernel
theorem dX12_beginThin_2 : decode cX12_beginThin 2 = .ok (.iload_n 1, 1) := by decide +kernel
theorem dX12_beginThin_3 : decode cX12_beginThin 3 = .ok (.iconst 4, 1) := by decide +kernel
theorem dX12_beginThin_4 : decode cX12_beginThin 4 = .ok (.if_icmp .ge 16, 3) := by decide +kernel
theorem dX12_beginThin_7 : decode cX12_beginThin 7 = .ok (.aload_n 0, 1) := by decide +kernel
end
section
theorem dX12_beginThin_8 : decode cX12_beginThin 8 = .ok (.getfield 85, 3) := by decide +kernel
theorem dX12_beginThin_11 : decode cX12_beginThin 11 = .ok (.iload_n 1, 1) := by decide +kernel
theorem dX12_beginThin_12 : decode cX12_beginThin 12 = .ok (.iconst 0, 1) := by decide +kernel
theorem dX12_beginThin_13 : decode cX12_beginThin 13 = .ok (.iastore, 1) := by decide +kernel
theorem dX12_beginThin_14 : decode cX12_beginThin 14 = .ok (.iinc 1 1, 3) := by decide +kernel
theorem dX12_beginThin_17 : decode cX12_beginThin 17 = .ok (.goto (-15), 3) := by decide +kernel
theorem dX12_beginThin_20 : decode cX12_beginThin 20 = .ok (.return_, 1) := by decide +kernel
theorem dX12_isHeard_0 : decode cX12_isHeard 0 = .ok (.aload_n 0, 1) := by decide +kernel
theorem dX12_isHeard_1 : decode cX12_isHeard 1 = .ok (.getfield 85, 3) := by decide +kernel
theorem dX12_isHeard_4 : decode cX12_isHeard 4 = .ok (.iload_n 1, 1) := by decide +kernel
theorem dX12_isHeard_5 : decode cX12_isHeard 5 = .ok (.iaload, 1) := by decide +kernel
theorem dX12_isHeard_6 : decode cX12_isHeard 6 = .ok (.aload_n 0, 1) := by decide +kernel
theorem dX12_isHeard_7 : decode cX12_isHeard 7 = .ok (.getfield 131, 3) := by decide +kernel
theorem dX12_isHeard_10 : decode cX12_isHeard 10 = .ok (.if_icmp .le 7, 3) := by decide +kernel
theorem dX12_isHeard_13 : decode cX12_isHeard 13 = .ok (.iconst 1, 1) := by decide +kernel
theorem dX12_isHeard_14 : decode cX12_isHeard 14 = .ok (.goto 4, 3) := by decide +kernel
theorem dX12_isHeard_17 : decode cX12_isHeard 17 = .ok (.iconst 0, 1) := by decide +kernel
theorem dX12_isHeard_18 : decode cX12_isHeard 18 = .ok (.ireturn, 1) := by decide +kernel
theorem dX12_wrongIn_0 : decode cX12_wrongIn 0 = .ok (.iconst 0, 1) := by decide +kernel
theorem dX12_wrongIn_1 : decode cX12_wrongIn 1 = .ok (.istore_n 2, 1) := by decide +kernel
theorem dX12_wrongIn_2 : decode cX12_wrongIn 2 = .ok (.iload_n 2, 1) := by decide +kernel
theorem dX12_wrongIn_3 : decode cX12_wrongIn 3 = .ok (.aload_n 0, 1) := by decide +kernel
theorem dX12_wrongIn_4 : decode cX12_wrongIn 4 = .ok (.getfield 124, 3) := by decide +kernel
theorem dX12_wrongIn_7 : decode cX12_wrongIn 7 = .ok (.if_icmp .ge 49, 3) := by decide +kernel
theorem dX12_wrongIn_10 : decode cX12_wrongIn 10 = .ok (.aload_n 0, 1) := by decide +kernel
theorem dX12_wrongIn_11 : decode cX12_wrongIn 11 = .ok (.getfield 78, 3) := by decide +kernel
theorem dX12_wrongIn_14 : decode cX12_wrongIn 14 = .ok (.iload_n 2, 1) := by decide +kernel
theorem dX12_wrongIn_15 : decode cX12_wrongIn 15 = .ok (.baload, 1) := by decide +kernel
theorem dX12_wrongIn_16 : decode cX12_wrongIn 16 = .ok (.ifCond .eq 34, 3) := by decide +kernel
theorem dX12_wrongIn_19 : decode cX12_wrongIn 19 = .ok (.aload_n 0, 1) := by decide +kernel
theorem dX12_wrongIn_20 : decode cX12_wrongIn 20 = .ok (.getfield 69, 3) := by decide +kernel
theorem dX12_wrongIn_23 : decode cX12_wrongIn 23 = .ok (.iload_n 2, 1) := by decide +kernel
theorem dX12_wrongIn_24 : decode cX12_wrongIn 24 = .ok (.iaload, 1) := by decide +kernel
theorem dX12_wrongIn_25 : decode cX12_wrongIn 25 = .ok (.aload_n 0, 1) := by decide +kernel
theorem dX12_wrongIn_26 : decode cX12_wrongIn 26 = .ok (.iload_n 2, 1) := by decide +kernel
theorem dX12_wrongIn_27 : decode cX12_wrongIn 27 = .ok (.aload_n 0, 1) := by decide +kernel
theorem dX12_wrongIn_28 : decode cX12_wrongIn 28 = .ok (.getfield 75, 3) := by decide +kernel
theorem dX12_wrongIn_31 : decode cX12_wrongIn 31 = .ok (.iload_n 2, 1) := by decide +kernel
theorem dX12_wrongIn_32 : decode cX12_wrongIn 32 = .ok (.iaload, 1) := by decide +kernel
theorem dX12_wrongIn_33 : decode cX12_wrongIn 33 = .ok (.aload_n 0, 1) := by decide +kernel
theorem dX12_wrongIn_34 : decode cX12_wrongIn 34 = .ok (.getfield 13, 3) := by decide +kernel
theorem dX12_wrongIn_37 : decode cX12_wrongIn 37 = .ok (.iload_n 1, 1) := by decide +kernel
theorem dX12_wrongIn_38 : decode cX12_wrongIn 38 = .ok (.iaload, 1) := by decide +kernel
theorem dX12_wrongIn_39 : decode cX12_wrongIn 39 = .ok (.invokevirtual 138, 3) := by decide +kernel
theorem dX12_wrongIn_42 : decode cX12_wrongIn 42 = .ok (.if_icmp .le 8, 3) := by decide +kernel
theorem dX12_wrongIn_45 : decode cX12_wrongIn 45 = .ok (.bipush 100, 2) := by decide +kernel
theorem dX12_wrongIn_47 : decode cX12_wrongIn 47 = .ok (.iload_n 2, 1) := by decide +kernel
theorem dX12_wrongIn_48 : decode cX12_wrongIn 48 = .ok (.iadd, 1) := by decide +kernel
theorem dX12_wrongIn_49 : decode cX12_wrongIn 49 = .ok (.ireturn, 1) := by decide +kernel
theorem dX12_wrongIn_50 : decode cX12_wrongIn 50 = .ok (.iinc 2 1, 3) := by decide +kernel
theorem dX12_wrongIn_53 : decode cX12_wrongIn 53 = .ok (.goto (-51), 3) := by decide +kernel
theorem dX12_wrongIn_56 : decode cX12_wrongIn 56 = .ok (.iconst 0, 1) := by decide +kernel
theorem dX12_wrongIn_57 : decode cX12_wrongIn 57 = .ok (.istore_n 2, 1) := by decide +kernel
theorem dX12_wrongIn_58 : decode cX12_wrongIn 58 = .ok (.iload_n 2, 1) := by decide +kernel
theorem dX12_wrongIn_59 : decode cX12_wrongIn 59 = .ok (.iconst 1, 1) := by decide +kernel
theorem dX12_wrongIn_60 : decode cX12_wrongIn 60 = .ok (.iadd, 1) := by decide +kernel
theorem dX12_wrongIn_61 : decode cX12_wrongIn 61 = .ok (.aload_n 0, 1) := by decide +kernel
theorem dX12_wrongIn_62 : decode cX12_wrongIn 62 = .ok (.getfield 124, 3) := by decide +kernel
theorem dX12_wrongIn_65 : decode cX12_wrongIn 65 = .ok (.if_icmp .ge 35, 3) := by decide +kernel
theorem dX12_wrongIn_68 : decode cX12_wrongIn 68 = .ok (.aload_n 0, 1) := by decide +kernel
theorem dX12_wrongIn_69 : decode cX12_wrongIn 69 = .ok (.getfield 78, 3) := by decide +kernel
theorem dX12_wrongIn_72 : decode cX12_wrongIn 72 = .ok (.iload_n 2, 1) := by decide +kernel
theorem dX12_wrongIn_73 : decode cX12_wrongIn 73 = .ok (.baload, 1) := by decide +kernel
theorem dX12_wrongIn_74 : decode cX12_wrongIn 74 = .ok (.ifCond .ne 20, 3) := by decide +kernel
theorem dX12_wrongIn_77 : decode cX12_wrongIn 77 = .ok (.aload_n 0, 1) := by decide +kernel
theorem dX12_wrongIn_78 : decode cX12_wrongIn 78 = .ok (.getfield 78, 3) := by decide +kernel
theorem dX12_wrongIn_81 : decode cX12_wrongIn 81 = .ok (.iload_n 2, 1) := by decide +kernel
theorem dX12_wrongIn_82 : decode cX12_wrongIn 82 = .ok (.iconst 1, 1) := by decide +kernel
theorem dX12_wrongIn_83 : decode cX12_wrongIn 83 = .ok (.iadd, 1) := by decide +kernel
theorem dX12_wrongIn_84 : decode cX12_wrongIn 84 = .ok (.baload, 1) := by decide +kernel
theorem dX12_wrongIn_85 : decode cX12_wrongIn 85 = .ok (.ifCond .ne 9, 3) := by decide +kernel
theorem dX12_wrongIn_88 : decode cX12_wrongIn 88 = .ok (.sipush 200, 3) := by decide +kernel
theorem dX12_wrongIn_91 : decode cX12_wrongIn 91 = .ok (.iload_n 2, 1) := by decide +kernel
theorem dX12_wrongIn_92 : decode cX12_wrongIn 92 = .ok (.iadd, 1) := by decide +kernel
theorem dX12_wrongIn_93 : decode cX12_wrongIn 93 = .ok (.ireturn, 1) := by decide +kernel
theorem dX12_wrongIn_94 : decode cX12_wrongIn 94 = .ok (.iinc 2 1, 3) := by decide +kernel
theorem dX12_wrongIn_97 : decode cX12_wrongIn 97 = .ok (.goto (-39), 3) := by decide +kernel
theorem dX12_wrongIn_100 : decode cX12_wrongIn 100 = .ok (.iconst 0, 1) := by decide +kernel
theorem dX12_wrongIn_101 : decode cX12_wrongIn 101 = .ok (.istore_n 2, 1) := by decide +kernel
theorem dX12_wrongIn_102 : decode cX12_wrongIn 102 = .ok (.iload_n 2, 1) := by decide +kernel
theorem dX12_wrongIn_103 : decode cX12_wrongIn 103 = .ok (.iconst 4, 1) := by decide +kernel
theorem dX12_wrongIn_104 : decode cX12_wrongIn 104 = .ok (.if_icmp .ge 23, 3) := by decide +kernel
theorem dX12_wrongIn_107 : decode cX12_wrongIn 107 = .ok (.aload_n 0, 1) := by decide +kernel
theorem dX12_wrongIn_108 : decode cX12_wrongIn 108 = .ok (.iload_n 2, 1) := by decide +kernel
theorem dX12_wrongIn_109 : decode cX12_wrongIn 109 = .ok (.invokevirtual 281, 3) := by decide +kernel
theorem dX12_wrongIn_112 : decode cX12_wrongIn 112 = .ok (.ifCond .eq 9, 3) := by decide +kernel
theorem dX12_wrongIn_115 : decode cX12_wrongIn 115 = .ok (.sipush 300, 3) := by decide +kernel
theorem dX12_wrongIn_118 : decode cX12_wrongIn 118 = .ok (.iload_n 2, 1) := by decide +kernel
theorem dX12_wrongIn_119 : decode cX12_wrongIn 119 = .ok (.iadd, 1) := by decide +kernel
theorem dX12_wrongIn_120 : decode cX12_wrongIn 120 = .ok (.ireturn, 1) := by decide +kernel
theorem dX12_wrongIn_121 : decode cX12_wrongIn 121 = .ok (.iinc 2 1, 3) := by decide +kernel
theorem dX12_wrongIn_124 : decode cX12_wrongIn 124 = .ok (.goto (-22), 3) := by decide +kernel
theorem dX12_wrongIn_127 : decode cX12_wrongIn 127 = .ok (.aload_n 0, 1) := by decide +kernel
theorem dX12_wrongIn_128 : decode cX12_wrongIn 128 = .ok (.getfield 20, 3) := by decide +kernel
theorem dX12_wrongIn_131 : decode cX12_wrongIn 131 = .ok (.iload_n 1, 1) := by decide +kernel
theorem dX12_wrongIn_132 : decode cX12_wrongIn 132 = .ok (.iaload, 1) := by decide +kernel
theorem dX12_wrongIn_133 : decode cX12_wrongIn 133 = .ok (.ifCond .ne 5, 3) := by decide +kernel
theorem dX12_wrongIn_136 : decode cX12_wrongIn 136 = .ok (.iconst (-1), 1) := by decide +kernel
theorem dX12_wrongIn_137 : decode cX12_wrongIn 137 = .ok (.ireturn, 1) := by decide +kernel
theorem dX12_wrongIn_138 : decode cX12_wrongIn 138 = .ok (.iconst 0, 1) := by decide +kernel
theorem dX12_wrongIn_139 : decode cX12_wrongIn 139 = .ok (.istore_n 2, 1) := by decide +kernel
theorem dX12_wrongIn_140 : decode cX12_wrongIn 140 = .ok (.iconst 0, 1) := by decide +kernel
theorem dX12_wrongIn_141 : decode cX12_wrongIn 141 = .ok (.istore_n 3, 1) := by decide +kernel
theorem dX12_wrongIn_142 : decode cX12_wrongIn 142 = .ok (.iload_n 3, 1) := by decide +kernel
theorem dX12_wrongIn_143 : decode cX12_wrongIn 143 = .ok (.aload_n 0, 1) := by decide +kernel
theorem dX12_wrongIn_144 : decode cX12_wrongIn 144 = .ok (.getfield 124, 3) := by decide +kernel
theorem dX12_wrongIn_147 : decode cX12_wrongIn 147 = .ok (.if_icmp .ge 40, 3) := by decide +kernel
theorem dX12_wrongIn_150 : decode cX12_wrongIn 150 = .ok (.iload_n 2, 1) := by decide +kernel
theorem dX12_wrongIn_151 : decode cX12_wrongIn 151 = .ok (.aload_n 0, 1) := by decide +kernel
theorem dX12_wrongIn_152 : decode cX12_wrongIn 152 = .ok (.getfield 78, 3) := by decide +kernel
theorem dX12_wrongIn_155 : decode cX12_wrongIn 155 = .ok (.iload_n 3, 1) := by decide +kernel
theorem dX12_wrongIn_156 : decode cX12_wrongIn 156 = .ok (.baload, 1) := by decide +kernel
theorem dX12_wrongIn_157 : decode cX12_wrongIn 157 = .ok (.ifCond .eq 21, 3) := by decide +kernel
theorem dX12_wrongIn_160 : decode cX12_wrongIn 160 = .ok (.aload_n 0, 1) := by decide +kernel
theorem dX12_wrongIn_161 : decode cX12_wrongIn 161 = .ok (.iload_n 3, 1) := by decide +kernel
theorem dX12_wrongIn_162 : decode cX12_wrongIn 162 = .ok (.aload_n 0, 1) := by decide +kernel
theorem dX12_wrongIn_163 : decode cX12_wrongIn 163 = .ok (.getfield 13, 3) := by decide +kernel
theorem dX12_wrongIn_166 : decode cX12_wrongIn 166 = .ok (.iload_n 1, 1) := by decide +kernel
theorem dX12_wrongIn_167 : decode cX12_wrongIn 167 = .ok (.iaload, 1) := by decide +kernel
theorem dX12_wrongIn_168 : decode cX12_wrongIn 168 = .ok (.invokevirtual 146, 3) := by decide +kernel
theorem dX12_wrongIn_171 : decode cX12_wrongIn 171 = .ok (.ifCond .eq 7, 3) := by decide +kernel
theorem dX12_wrongIn_174 : decode cX12_wrongIn 174 = .ok (.iconst 1, 1) := by decide +kernel
theorem dX12_wrongIn_175 : decode cX12_wrongIn 175 = .ok (.goto 4, 3) := by decide +kernel
theorem dX12_wrongIn_178 : decode cX12_wrongIn 178 = .ok (.iconst 0, 1) := by decide +kernel
theorem dX12_wrongIn_179 : decode cX12_wrongIn 179 = .ok (.iadd, 1) := by decide +kernel
theorem dX12_wrongIn_180 : decode cX12_wrongIn 180 = .ok (.istore_n 2, 1) := by decide +kernel
theorem dX12_wrongIn_181 : decode cX12_wrongIn 181 = .ok (.iinc 3 1, 3) := by decide +kernel
theorem dX12_wrongIn_184 : decode cX12_wrongIn 184 = .ok (.goto (-42), 3) := by decide +kernel
theorem dX12_wrongIn_187 : decode cX12_wrongIn 187 = .ok (.iload_n 2, 1) := by decide +kernel
theorem dX12_wrongIn_188 : decode cX12_wrongIn 188 = .ok (.ifCond .eq 8, 3) := by decide +kernel
theorem dX12_wrongIn_191 : decode cX12_wrongIn 191 = .ok (.iload_n 2, 1) := by decide +kernel
theorem dX12_wrongIn_192 : decode cX12_wrongIn 192 = .ok (.iconst 3, 1) := by decide +kernel
theorem dX12_wrongIn_193 : decode cX12_wrongIn 193 = .ok (.if_icmp .le 9, 3) := by decide +kernel
theorem dX12_wrongIn_196 : decode cX12_wrongIn 196 = .ok (.sipush 400, 3) := by decide +kernel
theorem dX12_wrongIn_199 : decode cX12_wrongIn 199 = .ok (.goto 4, 3) := by decide +kernel
theorem dX12_wrongIn_202 : decode cX12_wrongIn 202 = .ok (.iconst (-1), 1) := by decide +kernel
theorem dX12_wrongIn_203 : decode cX12_wrongIn 203 = .ok (.ireturn, 1) := by decide +kernel
theorem dX12_wrong_0 : decode cX12_wrong 0 = .ok (.aload_n 0, 1) := by decide +kernel
theorem dX12_wrong_1 : decode cX12_wrong 1 = .ok (.iload_n 1, 1) := by decide +kernel
theorem dX12_wrong_2 : decode cX12_wrong 2 = .ok (.invokevirtual 263, 3) := by decide +kernel
theorem dX12_wrong_5 : decode cX12_wrong 5 = .ok (.ifCond .ne 6, 3) := by decide +kernel
theorem dX12_wrong_8 : decode cX12_wrong 8 = .ok (.bipush (-2), 2) := by decide +kernel
theorem dX12_wrong_10 : decode cX12_wrong 10 = .ok (.ireturn, 1) := by decide +kernel
theorem dX12_wrong_11 : decode cX12_wrong 11 = .ok (.aload_n 0, 1) := by decide +kernel
theorem dX12_wrong_12 : decode cX12_wrong 12 = .ok (.iload_n 1, 1) := by decide +kernel
theorem dX12_wrong_13 : decode cX12_wrong 13 = .ok (.invokevirtual 269, 3) := by decide +kernel
theorem dX12_wrong_16 : decode cX12_wrong 16 = .ok (.ifCond .eq 6, 3) := by decide +kernel
theorem dX12_wrong_19 : decode cX12_wrong 19 = .ok (.bipush (-11), 2) := by decide +kernel
theorem dX12_wrong_21 : decode cX12_wrong 21 = .ok (.ireturn, 1) := by decide +kernel
theorem dX12_wrong_22 : decode cX12_wrong 22 = .ok (.aload_n 0, 1) := by decide +kernel
theorem dX12_wrong_23 : decode cX12_wrong 23 = .ok (.invokevirtual 272, 3) := by decide +kernel
theorem dX12_wrong_26 : decode cX12_wrong 26 = .ok (.aload_n 0, 1) := by decide +kernel
theorem dX12_wrong_27 : decode cX12_wrong 27 = .ok (.invokevirtual 284, 3) := by decide +kernel
theorem dX12_wrong_30 : decode cX12_wrong 30 = .ok (.iconst 0, 1) := by decide +kernel
theorem dX12_wrong_31 : decode cX12_wrong 31 = .ok (.istore_n 2, 1) := by decide +kernel
theorem dX12_wrong_32 : decode cX12_wrong 32 = .ok (.iload_n 2, 1) := by decide +kernel
theorem dX12_wrong_33 : decode cX12_wrong 33 = .ok (.aload_n 0, 1) := by decide +kernel
theorem dX12_wrong_34 : decode cX12_wrong 34 = .ok (.getfield 7, 3) := by decide +kernel
theorem dX12_wrong_37 : decode cX12_wrong 37 = .ok (.if_icmp .ge 38, 3) := by decide +kernel
theorem dX12_wrong_40 : decode cX12_wrong 40 = .ok (.aload_n 0, 1) := by decide +kernel
theorem dX12_wrong_41 : decode cX12_wrong 41 = .ok (.iload_n 1, 1) := by decide +kernel
theorem dX12_wrong_42 : decode cX12_wrong 42 = .ok (.iload_n 2, 1) := by decide +kernel
theorem dX12_wrong_43 : decode cX12_wrong 43 = .ok (.invokevirtual 275, 3) := by decide +kernel
theorem dX12_wrong_46 : decode cX12_wrong 46 = .ok (.aload_n 0, 1) := by decide +kernel
theorem dX12_wrong_47 : decode cX12_wrong 47 = .ok (.invokevirtual 287, 3) := by decide +kernel
theorem dX12_wrong_50 : decode cX12_wrong 50 = .ok (.aload_n 0, 1) := by decide +kernel
theorem dX12_wrong_51 : decode cX12_wrong 51 = .ok (.iload_n 2, 1) := by decide +kernel
theorem dX12_wrong_52 : decode cX12_wrong 52 = .ok (.invokevirtual 290, 3) := by decide +kernel
theorem dX12_wrong_55 : decode cX12_wrong 55 = .ok (.istore_n 3, 1) := by decide +kernel
theorem dX12_wrong_56 : decode cX12_wrong 56 = .ok (.iload_n 3, 1) := by decide +kernel
theorem dX12_wrong_57 : decode cX12_wrong 57 = .ok (.iconst (-1), 1) := by decide +kernel
theorem dX12_wrong_58 : decode cX12_wrong 58 = .ok (.if_icmp .eq 11, 3) := by decide +kernel
theorem dX12_wrong_61 : decode cX12_wrong 61 = .ok (.sipush 1000, 3) := by decide +kernel
theorem dX12_wrong_64 : decode cX12_wrong 64 = .ok (.iload_n 2, 1) := by decide +kernel
theorem dX12_wrong_65 : decode cX12_wrong 65 = .ok (.imul, 1) := by decide +kernel
theorem dX12_wrong_66 : decode cX12_wrong 66 = .ok (.iload_n 3, 1) := by decide +kernel
theorem dX12_wrong_67 : decode cX12_wrong 67 = .ok (.iadd, 1) := by decide +kernel
theorem dX12_wrong_68 : decode cX12_wrong 68 = .ok (.ireturn, 1) := by decide +kernel
theorem dX12_wrong_69 : decode cX12_wrong 69 = .ok (.iinc 2 1, 3) := by decide +kernel
theorem dX12_wrong_72 : decode cX12_wrong 72 = .ok (.goto (-40), 3) := by decide +kernel
theorem dX12_wrong_75 : decode cX12_wrong 75 = .ok (.iconst (-1), 1) := by decide +kernel
theorem dX12_wrong_76 : decode cX12_wrong 76 = .ok (.ireturn, 1) := by decide +kernel
theorem dX12_badOf_0 : decode cX12_badOf 0 = .ok (.aload_n 0, 1) := by decide +kernel
theorem dX12_badOf_1 : decode cX12_badOf 1 = .ok (.invokevirtual 284, 3) := by decide +kernel
theorem dX12_badOf_4 : decode cX12_badOf 4 = .ok (.lconst 0, 1) := by decide +kernel
theorem dX12_badOf_5 : decode cX12_badOf 5 = .ok (.lstore_n 2, 1) := by decide +kernel
theorem dX12_badOf_6 : decode cX12_badOf 6 = .ok (.iconst 0, 1) := by decide +kernel
theorem dX12_badOf_7 : decode cX12_badOf 7 = .ok (.istore 4, 2) := by decide +kernel
theorem dX12_badOf_9 : decode cX12_badOf 9 = .ok (.iload 4, 2) := by decide +kernel
theorem dX12_badOf_11 : decode cX12_badOf 11 = .ok (.aload_n 0, 1) := by decide +kernel
theorem dX12_badOf_12 : decode cX12_badOf 12 = .ok (.getfield 7, 3) := by decide +kernel
theorem dX12_badOf_15 : decode cX12_badOf 15 = .ok (.if_icmp .ge 122, 3) := by decide +kernel
theorem dX12_badOf_18 : decode cX12_badOf 18 = .ok (.aload_n 0, 1) := by decide +kernel
theorem dX12_badOf_19 : decode cX12_badOf 19 = .ok (.iload_n 1, 1) := by decide +kernel
theorem dX12_badOf_20 : decode cX12_badOf 20 = .ok (.iload 4, 2) := by decide +kernel
theorem dX12_badOf_22 : decode cX12_badOf 22 = .ok (.invokevirtual 275, 3) := by decide +kernel
theorem dX12_badOf_25 : decode cX12_badOf 25 = .ok (.aload_n 0, 1) := by decide +kernel
theorem dX12_badOf_26 : decode cX12_badOf 26 = .ok (.invokevirtual 287, 3) := by decide +kernel
theorem dX12_badOf_29 : decode cX12_badOf 29 = .ok (.iconst 0, 1) := by decide +kernel
theorem dX12_badOf_30 : decode cX12_badOf 30 = .ok (.istore 5, 2) := by decide +kernel
theorem dX12_badOf_32 : decode cX12_badOf 32 = .ok (.iload 5, 2) := by decide +kernel
theorem dX12_badOf_34 : decode cX12_badOf 34 = .ok (.iconst 4, 1) := by decide +kernel
theorem dX12_badOf_35 : decode cX12_badOf 35 = .ok (.if_icmp .ge 96, 3) := by decide +kernel
theorem dX12_badOf_38 : decode cX12_badOf 38 = .ok (.aload_n 0, 1) := by decide +kernel
theorem dX12_badOf_39 : decode cX12_badOf 39 = .ok (.iload 5, 2) := by decide +kernel
theorem dX12_badOf_41 : decode cX12_badOf 41 = .ok (.invokevirtual 281, 3) := by decide +kernel
theorem dX12_badOf_44 : decode cX12_badOf 44 = .ok (.ifCond .ne 6, 3) := by decide +kernel
theorem dX12_badOf_47 : decode cX12_badOf 47 = .ok (.goto 78, 3) := by decide +kernel
theorem dX12_badOf_50 : decode cX12_badOf 50 = .ok (.iconst 0, 1) := by decide +kernel
theorem dX12_badOf_51 : decode cX12_badOf 51 = .ok (.istore 6, 2) := by decide +kernel
theorem dX12_badOf_53 : decode cX12_badOf 53 = .ok (.iload 6, 2) := by decide +kernel
theorem dX12_badOf_55 : decode cX12_badOf 55 = .ok (.bipush 6, 2) := by decide +kernel
theorem dX12_badOf_57 : decode cX12_badOf 57 = .ok (.if_icmp .ge 17, 3) := by decide +kernel
theorem dX12_badOf_60 : decode cX12_badOf 60 = .ok (.aload_n 0, 1) := by decide +kernel
theorem dX12_badOf_61 : decode cX12_badOf 61 = .ok (.getfield 60, 3) := by decide +kernel
theorem dX12_badOf_64 : decode cX12_badOf 64 = .ok (.iload 6, 2) := by decide +kernel
theorem dX12_badOf_66 : decode cX12_badOf 66 = .ok (.iconst 0, 1) := by decide +kernel
theorem dX12_badOf_67 : decode cX12_badOf 67 = .ok (.iastore, 1) := by decide +kernel
theorem dX12_badOf_68 : decode cX12_badOf 68 = .ok (.iinc 6 1, 3) := by decide +kernel
theorem dX12_badOf_71 : decode cX12_badOf 71 = .ok (.goto (-18), 3) := by decide +kernel
theorem dX12_badOf_74 : decode cX12_badOf 74 = .ok (.aload_n 0, 1) := by decide +kernel
theorem dX12_badOf_75 : decode cX12_badOf 75 = .ok (.getfield 60, 3) := by decide +kernel
theorem dX12_badOf_78 : decode cX12_badOf 78 = .ok (.iconst 1, 1) := by decide +kernel
theorem dX12_badOf_79 : decode cX12_badOf 79 = .ok (.aload_n 0, 1) := by decide +kernel
theorem dX12_badOf_80 : decode cX12_badOf 80 = .ok (.getfield 13, 3) := by decide +kernel
theorem dX12_badOf_83 : decode cX12_badOf 83 = .ok (.iload 4, 2) := by decide +kernel
theorem dX12_badOf_85 : decode cX12_badOf 85 = .ok (.iaload, 1) := by decide +kernel
theorem dX12_badOf_86 : decode cX12_badOf 86 = .ok (.iastore, 1) := by decide +kernel
theorem dX12_badOf_87 : decode cX12_badOf 87 = .ok (.aload_n 0, 1) := by decide +kernel
theorem dX12_badOf_88 : decode cX12_badOf 88 = .ok (.getfield 60, 3) := by decide +kernel
theorem dX12_badOf_91 : decode cX12_badOf 91 = .ok (.iconst 2, 1) := by decide +kernel
theorem dX12_badOf_92 : decode cX12_badOf 92 = .ok (.iload 4, 2) := by decide +kernel
theorem dX12_badOf_94 : decode cX12_badOf 94 = .ok (.iastore, 1) := by decide +kernel
theorem dX12_badOf_95 : decode cX12_badOf 95 = .ok (.lload_n 2, 1) := by decide +kernel
theorem dX12_badOf_96 : decode cX12_badOf 96 = .ok (.aload_n 0, 1) := by decide +kernel
theorem dX12_badOf_97 : decode cX12_badOf 97 = .ok (.iconst 2, 1) := by decide +kernel
theorem dX12_badOf_98 : decode cX12_badOf 98 = .ok (.invokevirtual 254, 3) := by decide +kernel
theorem dX12_badOf_101 : decode cX12_badOf 101 = .ok (.bipush 99, 2) := by decide +kernel
theorem dX12_badOf_103 : decode cX12_badOf 103 = .ok (.invokestatic 293, 3) := by decide +kernel
theorem dX12_badOf_106 : decode cX12_badOf 106 = .ok (.i2l, 1) := by decide +kernel
theorem dX12_badOf_107 : decode cX12_badOf 107 = .ok (.aload_n 0, 1) := by decide +kernel
theorem dX12_badOf_108 : decode cX12_badOf 108 = .ok (.getfield 23, 3) := by decide +kernel
theorem dX12_badOf_111 : decode cX12_badOf 111 = .ok (.iload 5, 2) := by decide +kernel
theorem dX12_badOf_113 : decode cX12_badOf 113 = .ok (.iaload, 1) := by decide +kernel
theorem dX12_badOf_114 : decode cX12_badOf 114 = .ok (.aload_n 0, 1) := by decide +kernel
theorem dX12_badOf_115 : decode cX12_badOf 115 = .ok (.iload 5, 2) := by decide +kernel
theorem dX12_badOf_117 : decode cX12_badOf 117 = .ok (.invokevirtual 278, 3) := by decide +kernel
theorem dX12_badOf_120 : decode cX12_badOf 120 = .ok (.isub, 1) := by decide +kernel
theorem dX12_badOf_121 : decode cX12_badOf 121 = .ok (.i2l, 1) := by decide +kernel
theorem dX12_badOf_122 : decode cX12_badOf 122 = .ok (.lmul, 1) := by decide +kernel
theorem dX12_badOf_123 : decode cX12_badOf 123 = .ok (.ladd, 1) := by decide +kernel
theorem dX12_badOf_124 : decode cX12_badOf 124 = .ok (.lstore_n 2, 1) := by decide +kernel
theorem dX12_badOf_125 : decode cX12_badOf 125 = .ok (.iinc 5 1, 3) := by decide +kernel
theorem dX12_badOf_128 : decode cX12_badOf 128 = .ok (.goto (-96), 3) := by decide +kernel
theorem dX12_badOf_131 : decode cX12_badOf 131 = .ok (.iinc 4 1, 3) := by decide +kernel
theorem dX12_badOf_134 : decode cX12_badOf 134 = .ok (.goto (-125), 3) := by decide +kernel
theorem dX12_badOf_137 : decode cX12_badOf 137 = .ok (.lload_n 2, 1) := by decide +kernel
theorem dX12_badOf_138 : decode cX12_badOf 138 = .ok (.lreturn, 1) := by decide +kernel
theorem dX12_bad_0 : decode cX12_bad 0 = .ok (.aload_n 0, 1) := by decide +kernel
theorem dX12_bad_1 : decode cX12_bad 1 = .ok (.iload_n 1, 1) := by decide +kernel
theorem dX12_bad_2 : decode cX12_bad 2 = .ok (.invokevirtual 263, 3) := by decide +kernel
theorem dX12_bad_5 : decode cX12_bad 5 = .ok (.ifCond .eq 11, 3) := by decide +kernel
theorem dX12_bad_8 : decode cX12_bad 8 = .ok (.aload_n 0, 1) := by decide +kernel
theorem dX12_bad_9 : decode cX12_bad 9 = .ok (.iload_n 1, 1) := by decide +kernel
theorem dX12_bad_10 : decode cX12_bad 10 = .ok (.invokevirtual 269, 3) := by decide +kernel
theorem dX12_bad_13 : decode cX12_bad 13 = .ok (.ifCond .eq 7, 3) := by decide +kernel
theorem dX12_bad_16 : decode cX12_bad 16 = .ok (.ldc2_w 296, 3) := by decide +kernel
theorem dX12_bad_19 : decode cX12_bad 19 = .ok (.lreturn, 1) := by decide +kernel
theorem dX12_bad_20 : decode cX12_bad 20 = .ok (.aload_n 0, 1) := by decide +kernel
theorem dX12_bad_21 : decode cX12_bad 21 = .ok (.invokevirtual 272, 3) := by decide +kernel
theorem dX12_bad_24 : decode cX12_bad 24 = .ok (.aload_n 0, 1) := by decide +kernel
theorem dX12_bad_25 : decode cX12_bad 25 = .ok (.iload_n 1, 1) := by decide +kernel
theorem dX12_bad_26 : decode cX12_bad 26 = .ok (.invokevirtual 298, 3) := by decide +kernel
theorem dX12_bad_29 : decode cX12_bad 29 = .ok (.lreturn, 1) := by decide +kernel
theorem dX12_breaths_0 : decode cX12_breaths 0 = .ok (.aload_n 0, 1) := by decide +kernel
theorem dX12_breaths_1 : decode cX12_breaths 1 = .ok (.iload_n 1, 1) := by decide +kernel
theorem dX12_breaths_2 : decode cX12_breaths 2 = .ok (.invokevirtual 263, 3) := by decide +kernel
theorem dX12_breaths_5 : decode cX12_breaths 5 = .ok (.ifCond .eq 16, 3) := by decide +kernel
theorem dX12_breaths_8 : decode cX12_breaths 8 = .ok (.iload_n 2, 1) := by decide +kernel
theorem dX12_breaths_9 : decode cX12_breaths 9 = .ok (.iconst (-1), 1) := by decide +kernel
theorem dX12_breaths_10 : decode cX12_breaths 10 = .ok (.if_icmp .eq 14, 3) := by decide +kernel
theorem dX12_breaths_13 : decode cX12_breaths 13 = .ok (.aload_n 0, 1) := by decide +kernel
theorem dX12_breaths_14 : decode cX12_breaths 14 = .ok (.iload_n 2, 1) := by decide +kernel
theorem dX12_breaths_15 : decode cX12_breaths 15 = .ok (.invokevirtual 134, 3) := by decide +kernel
theorem dX12_breaths_18 : decode cX12_breaths 18 = .ok (.ifCond .ne 6, 3) := by decide +kernel
theorem dX12_breaths_21 : decode cX12_breaths 21 = .ok (.bipush (-2), 2) := by decide +kernel
theorem dX12_breaths_23 : decode cX12_breaths 23 = .ok (.ireturn, 1) := by decide +kernel
theorem dX12_breaths_24 : decode cX12_breaths 24 = .ok (.aload_n 0, 1) := by decide +kernel
theorem dX12_breaths_25 : decode cX12_breaths 25 = .ok (.iload_n 1, 1) := by decide +kernel
theorem dX12_breaths_26 : decode cX12_breaths 26 = .ok (.invokevirtual 269, 3) := by decide +kernel
theorem dX12_breaths_29 : decode cX12_breaths 29 = .ok (.ifCond .eq 6, 3) := by decide +kernel
theorem dX12_breaths_32 : decode cX12_breaths 32 = .ok (.bipush (-11), 2) := by decide +kernel
theorem dX12_breaths_34 : decode cX12_breaths 34 = .ok (.ireturn, 1) := by decide +kernel
theorem dX12_breaths_35 : decode cX12_breaths 35 = .ok (.aload_n 0, 1) := by decide +kernel
theorem dX12_breaths_36 : decode cX12_breaths 36 = .ok (.invokevirtual 272, 3) := by decide +kernel
theorem dX12_breaths_39 : decode cX12_breaths 39 = .ok (.iconst 0, 1) := by decide +kernel
theorem dX12_breaths_40 : decode cX12_breaths 40 = .ok (.istore_n 3, 1) := by decide +kernel
theorem dX12_breaths_41 : decode cX12_breaths 41 = .ok (.iload_n 3, 1) := by decide +kernel
theorem dX12_breaths_42 : decode cX12_breaths 42 = .ok (.aload_n 0, 1) := by decide +kernel
theorem dX12_breaths_43 : decode cX12_breaths 43 = .ok (.getfield 7, 3) := by decide +kernel
theorem dX12_breaths_46 : decode cX12_breaths 46 = .ok (.if_icmp .ge 15, 3) := by decide +kernel
theorem dX12_breaths_49 : decode cX12_breaths 49 = .ok (.aload_n 0, 1) := by decide +kernel
theorem dX12_breaths_50 : decode cX12_breaths 50 = .ok (.iload_n 1, 1) := by decide +kernel
theorem dX12_breaths_51 : decode cX12_breaths 51 = .ok (.iload_n 3, 1) := by decide +kernel
theorem dX12_breaths_52 : decode cX12_breaths 52 = .ok (.invokevirtual 275, 3) := by decide +kernel
theorem dX12_breaths_55 : decode cX12_breaths 55 = .ok (.iinc 3 1, 3) := by decide +kernel
theorem dX12_breaths_58 : decode cX12_breaths 58 = .ok (.goto (-17), 3) := by decide +kernel
theorem dX12_breaths_61 : decode cX12_breaths 61 = .ok (.iconst 0, 1) := by decide +kernel
theorem dX12_breaths_62 : decode cX12_breaths 62 = .ok (.istore_n 3, 1) := by decide +kernel
theorem dX12_breaths_63 : decode cX12_breaths 63 = .ok (.iconst 0, 1) := by decide +kernel
theorem dX12_breaths_64 : decode cX12_breaths 64 = .ok (.istore 4, 2) := by decide +kernel
theorem dX12_breaths_66 : decode cX12_breaths 66 = .ok (.iload 4, 2) := by decide +kernel
theorem dX12_breaths_68 : decode cX12_breaths 68 = .ok (.aload_n 0, 1) := by decide +kernel
theorem dX12_breaths_69 : decode cX12_breaths 69 = .ok (.getfield 124, 3) := by decide +kernel
theorem dX12_breaths_72 : decode cX12_breaths 72 = .ok (.if_icmp .ge 30, 3) := by decide +kernel
theorem dX12_breaths_75 : decode cX12_breaths 75 = .ok (.iload_n 2, 1) := by decide +kernel
theorem dX12_breaths_76 : decode cX12_breaths 76 = .ok (.iconst (-1), 1) := by decide +kernel
theorem dX12_breaths_77 : decode cX12_breaths 77 = .ok (.if_icmp .eq 9, 3) := by decide +kernel
theorem dX12_breaths_80 : decode cX12_breaths 80 = .ok (.iload 4, 2) := by decide +kernel
theorem dX12_breaths_82 : decode cX12_breaths 82 = .ok (.iload_n 2, 1) := by decide +kernel
theorem dX12_breaths_83 : decode cX12_breaths 83 = .ok (.if_icmp .ne 13, 3) := by decide +kernel
theorem dX12_breaths_86 : decode cX12_breaths 86 = .ok (.iload_n 3, 1) := by decide +kernel
theorem dX12_breaths_87 : decode cX12_breaths 87 = .ok (.aload_n 0, 1) := by decide +kernel
theorem dX12_breaths_88 : decode cX12_breaths 88 = .ok (.getfield 75, 3) := by decide +kernel
theorem dX12_breaths_91 : decode cX12_breaths 91 = .ok (.iload 4, 2) := by decide +kernel
theorem dX12_breaths_93 : decode cX12_breaths 93 = .ok (.iaload, 1) := by decide +kernel
theorem dX12_breaths_94 : decode cX12_breaths 94 = .ok (.iadd, 1) := by decide +kernel
theorem dX12_breaths_95 : decode cX12_breaths 95 = .ok (.istore_n 3, 1) := by decide +kernel
theorem dX12_breaths_96 : decode cX12_breaths 96 = .ok (.iinc 4 1, 3) := by decide +kernel
theorem dX12_breaths_99 : decode cX12_breaths 99 = .ok (.goto (-33), 3) := by decide +kernel
theorem dX12_breaths_102 : decode cX12_breaths 102 = .ok (.iload_n 3, 1) := by decide +kernel
theorem dX12_breaths_103 : decode cX12_breaths 103 = .ok (.ireturn, 1) := by decide +kernel
theorem dX12_fewest_0 : decode cX12_fewest 0 = .ok (.iload_n 1, 1) := by decide +kernel
theorem dX12_fewest_1 : decode cX12_fewest 1 = .ok (.iconst 1, 1) := by decide +kernel
theorem dX12_fewest_2 : decode cX12_fewest 2 = .ok (.bipush 40, 2) := by decide +kernel
theorem dX12_fewest_4 : decode cX12_fewest 4 = .ok (.invokestatic 127, 3) := by decide +kernel
theorem dX12_fewest_7 : decode cX12_fewest 7 = .ok (.ifCond .eq 37, 3) := by decide +kernel
theorem dX12_fewest_10 : decode cX12_fewest 10 = .ok (.iload_n 2, 1) := by decide +kernel
theorem dX12_fewest_11 : decode cX12_fewest 11 = .ok (.iconst 1, 1) := by decide +kernel
theorem dX12_fewest_12 : decode cX12_fewest 12 = .ok (.bipush 18, 2) := by decide +kernel
theorem dX12_fewest_14 : decode cX12_fewest 14 = .ok (.invokestatic 127, 3) := by decide +kernel
theorem dX12_fewest_17 : decode cX12_fewest 17 = .ok (.ifCond .eq 27, 3) := by decide +kernel
theorem dX12_fewest_20 : decode cX12_fewest 20 = .ok (.iload_n 3, 1) := by decide +kernel
theorem dX12_fewest_21 : decode cX12_fewest 21 = .ok (.iconst 0, 1) := by decide +kernel
theorem dX12_fewest_22 : decode cX12_fewest 22 = .ok (.bipush 99, 2) := by decide +kernel
theorem dX12_fewest_24 : decode cX12_fewest 24 = .ok (.invokestatic 127, 3) := by decide +kernel
theorem dX12_fewest_27 : decode cX12_fewest 27 = .ok (.ifCond .eq 17, 3) := by decide +kernel
theorem dX12_fewest_30 : decode cX12_fewest 30 = .ok (.iload_n 3, 1) := by decide +kernel
theorem dX12_fewest_31 : decode cX12_fewest 31 = .ok (.iload_n 1, 1) := by decide +kernel
theorem dX12_fewest_32 : decode cX12_fewest 32 = .ok (.iload_n 2, 1) := by decide +kernel
theorem dX12_fewest_33 : decode cX12_fewest 33 = .ok (.iadd, 1) := by decide +kernel
theorem dX12_fewest_34 : decode cX12_fewest 34 = .ok (.imul, 1) := by decide +kernel
theorem dX12_fewest_35 : decode cX12_fewest 35 = .ok (.iload_n 1, 1) := by decide +kernel
theorem dX12_fewest_36 : decode cX12_fewest 36 = .ok (.iadd, 1) := by decide +kernel
theorem dX12_fewest_37 : decode cX12_fewest 37 = .ok (.iconst 1, 1) := by decide +kernel
theorem dX12_fewest_38 : decode cX12_fewest 38 = .ok (.isub, 1) := by decide +kernel
theorem dX12_fewest_39 : decode cX12_fewest 39 = .ok (.iload_n 1, 1) := by decide +kernel
theorem dX12_fewest_40 : decode cX12_fewest 40 = .ok (.idiv, 1) := by decide +kernel
theorem dX12_fewest_41 : decode cX12_fewest 41 = .ok (.goto 5, 3) := by decide +kernel
theorem dX12_fewest_44 : decode cX12_fewest 44 = .ok (.bipush (-2), 2) := by decide +kernel
theorem dX12_fewest_46 : decode cX12_fewest 46 = .ok (.ireturn, 1) := by decide +kernel
theorem dX12_isLike_0 : decode cX12_isLike 0 = .ok (.iconst 0, 1) := by decide +kernel
theorem dX12_isLike_1 : decode cX12_isLike 1 = .ok (.istore_n 3, 1) := by decide +kernel
theorem dX12_isLike_2 : decode cX12_isLike 2 = .ok (.iload_n 3, 1) := by decide +kernel
theorem dX12_isLike_3 : decode cX12_isLike 3 = .ok (.aload_n 0, 1) := by decide +kernel
theorem dX12_isLike_4 : decode cX12_isLike 4 = .ok (.getfield 124, 3) := by decide +kernel
theorem dX12_isLike_7 : decode cX12_isLike 7 = .ok (.if_icmp .ge 61, 3) := by decide +kernel
theorem dX12_isLike_10 : decode cX12_isLike 10 = .ok (.aload_n 0, 1) := by decide +kernel
theorem dX12_isLike_11 : decode cX12_isLike 11 = .ok (.getfield 88, 3) := by decide +kernel
theorem dX12_isLike_14 : decode cX12_isLike 14 = .ok (.bipush 10, 2) := by decide +kernel
theorem dX12_isLike_16 : decode cX12_isLike 16 = .ok (.iload_n 1, 1) := by decide +kernel
theorem dX12_isLike_17 : decode cX12_isLike 17 = .ok (.imul, 1) := by decide +kernel
theorem dX12_isLike_18 : decode cX12_isLike 18 = .ok (.iload_n 3, 1) := by decide +kernel
theorem dX12_isLike_19 : decode cX12_isLike 19 = .ok (.iadd, 1) := by decide +kernel
theorem dX12_isLike_20 : decode cX12_isLike 20 = .ok (.iaload, 1) := by decide +kernel
theorem dX12_isLike_21 : decode cX12_isLike 21 = .ok (.aload_n 0, 1) := by decide +kernel
theorem dX12_isLike_22 : decode cX12_isLike 22 = .ok (.getfield 88, 3) := by decide +kernel
theorem dX12_isLike_25 : decode cX12_isLike 25 = .ok (.bipush 10, 2) := by decide +kernel
theorem dX12_isLike_27 : decode cX12_isLike 27 = .ok (.iload_n 2, 1) := by decide +kernel
theorem dX12_isLike_28 : decode cX12_isLike 28 = .ok (.imul, 1) := by decide +kernel
theorem dX12_isLike_29 : decode cX12_isLike 29 = .ok (.iload_n 3, 1) := by decide +kernel
theorem dX12_isLike_30 : decode cX12_isLike 30 = .ok (.iadd, 1) := by decide +kernel
theorem dX12_isLike_31 : decode cX12_isLike 31 = .ok (.iaload, 1) := by decide +kernel
theorem dX12_isLike_32 : decode cX12_isLike 32 = .ok (.if_icmp .ne 28, 3) := by decide +kernel
theorem dX12_isLike_35 : decode cX12_isLike 35 = .ok (.aload_n 0, 1) := by decide +kernel
theorem dX12_isLike_36 : decode cX12_isLike 36 = .ok (.getfield 91, 3) := by decide +kernel
theorem dX12_isLike_39 : decode cX12_isLike 39 = .ok (.bipush 10, 2) := by decide +kernel
theorem dX12_isLike_41 : decode cX12_isLike 41 = .ok (.iload_n 1, 1) := by decide +kernel
theorem dX12_isLike_42 : decode cX12_isLike 42 = .ok (.imul, 1) := by decide +kernel
theorem dX12_isLike_43 : decode cX12_isLike 43 = .ok (.iload_n 3, 1) := by decide +kernel
theorem dX12_isLike_44 : decode cX12_isLike 44 = .ok (.iadd, 1) := by decide +kernel
theorem dX12_isLike_45 : decode cX12_isLike 45 = .ok (.iaload, 1) := by decide +kernel
theorem dX12_isLike_46 : decode cX12_isLike 46 = .ok (.aload_n 0, 1) := by decide +kernel
theorem dX12_isLike_47 : decode cX12_isLike 47 = .ok (.getfield 91, 3) := by decide +kernel
theorem dX12_isLike_50 : decode cX12_isLike 50 = .ok (.bipush 10, 2) := by decide +kernel
theorem dX12_isLike_52 : decode cX12_isLike 52 = .ok (.iload_n 2, 1) := by decide +kernel
theorem dX12_isLike_53 : decode cX12_isLike 53 = .ok (.imul, 1) := by decide +kernel
theorem dX12_isLike_54 : decode cX12_isLike 54 = .ok (.iload_n 3, 1) := by decide +kernel
theorem dX12_isLike_55 : decode cX12_isLike 55 = .ok (.iadd, 1) := by decide +kernel
theorem dX12_isLike_56 : decode cX12_isLike 56 = .ok (.iaload, 1) := by decide +kernel
theorem dX12_isLike_57 : decode cX12_isLike 57 = .ok (.if_icmp .eq 5, 3) := by decide +kernel
theorem dX12_isLike_60 : decode cX12_isLike 60 = .ok (.iconst 0, 1) := by decide +kernel
theorem dX12_isLike_61 : decode cX12_isLike 61 = .ok (.ireturn, 1) := by decide +kernel
theorem dX12_isLike_62 : decode cX12_isLike 62 = .ok (.iinc 3 1, 3) := by decide +kernel
theorem dX12_isLike_65 : decode cX12_isLike 65 = .ok (.goto (-63), 3) := by decide +kernel
theorem dX12_isLike_68 : decode cX12_isLike 68 = .ok (.iconst 1, 1) := by decide +kernel
theorem dX12_isLike_69 : decode cX12_isLike 69 = .ok (.ireturn, 1) := by decide +kernel
theorem dX12_round_0 : decode cX12_round 0 = .ok (.iload_n 1, 1) := by decide +kernel
theorem dX12_round_1 : decode cX12_round 1 = .ok (.ifCond .eq 9, 3) := by decide +kernel
theorem dX12_round_4 : decode cX12_round 4 = .ok (.iload_n 1, 1) := by decide +kernel
theorem dX12_round_5 : decode cX12_round 5 = .ok (.bipush 6, 2) := by decide +kernel
theorem dX12_round_7 : decode cX12_round 7 = .ok (.if_icmp .ne 22, 3) := by decide +kernel
theorem dX12_round_10 : decode cX12_round 10 = .ok (.iload_n 2, 1) := by decide +kernel
theorem dX12_round_11 : decode cX12_round 11 = .ok (.iconst 0, 1) := by decide +kernel
theorem dX12_round_12 : decode cX12_round 12 = .ok (.bipush 9, 2) := by decide +kernel
theorem dX12_round_14 : decode cX12_round 14 = .ok (.invokestatic 127, 3) := by decide +kernel
theorem dX12_round_17 : decode cX12_round 17 = .ok (.ifCond .eq 12, 3) := by decide +kernel
theorem dX12_round_20 : decode cX12_round 20 = .ok (.iload_n 3, 1) := by decide +kernel
theorem dX12_round_21 : decode cX12_round 21 = .ok (.iconst 0, 1) := by decide +kernel
theorem dX12_round_22 : decode cX12_round 22 = .ok (.iconst 1, 1) := by decide +kernel
theorem dX12_round_23 : decode cX12_round 23 = .ok (.invokestatic 127, 3) := by decide +kernel
theorem dX12_round_26 : decode cX12_round 26 = .ok (.ifCond .ne 6, 3) := by decide +kernel
theorem dX12_round_29 : decode cX12_round 29 = .ok (.bipush (-2), 2) := by decide +kernel
theorem dX12_round_31 : decode cX12_round 31 = .ok (.ireturn, 1) := by decide +kernel
theorem dX12_round_32 : decode cX12_round 32 = .ok (.aload_n 0, 1) := by decide +kernel
theorem dX12_round_33 : decode cX12_round 33 = .ok (.invokevirtual 272, 3) := by decide +kernel
theorem dX12_round_36 : decode cX12_round 36 = .ok (.aload_n 0, 1) := by decide +kernel
theorem dX12_round_37 : decode cX12_round 37 = .ok (.iload_n 2, 1) := by decide +kernel
theorem dX12_round_38 : decode cX12_round 38 = .ok (.putfield 232, 3) := by decide +kernel
theorem dX12_round_41 : decode cX12_round 41 = .ok (.iconst 0, 1) := by decide +kernel
theorem dX12_round_42 : decode cX12_round 42 = .ok (.istore 4, 2) := by decide +kernel
theorem dX12_round_44 : decode cX12_round 44 = .ok (.iload 4, 2) := by decide +kernel
theorem dX12_round_46 : decode cX12_round 46 = .ok (.sipush 200, 3) := by decide +kernel
theorem dX12_round_49 : decode cX12_round 49 = .ok (.if_icmp .ge 113, 3) := by decide +kernel
theorem dX12_round_52 : decode cX12_round 52 = .ok (.aload_n 0, 1) := by decide +kernel
theorem dX12_round_53 : decode cX12_round 53 = .ok (.iload_n 1, 1) := by decide +kernel
theorem dX12_round_54 : decode cX12_round 54 = .ok (.iload 4, 2) := by decide +kernel
theorem dX12_round_56 : decode cX12_round 56 = .ok (.invokevirtual 275, 3) := by decide +kernel
theorem dX12_round_59 : decode cX12_round 59 = .ok (.iconst 0, 1) := by decide +kernel
theorem dX12_round_60 : decode cX12_round 60 = .ok (.istore 5, 2) := by decide +kernel
theorem dX12_round_62 : decode cX12_round 62 = .ok (.iload 5, 2) := by decide +kernel
theorem dX12_round_64 : decode cX12_round 64 = .ok (.aload_n 0, 1) := by decide +kernel
theorem dX12_round_65 : decode cX12_round 65 = .ok (.getfield 124, 3) := by decide +kernel
theorem dX12_round_68 : decode cX12_round 68 = .ok (.if_icmp .ge 49, 3) := by decide +kernel
theorem dX12_round_71 : decode cX12_round 71 = .ok (.aload_n 0, 1) := by decide +kernel
theorem dX12_round_72 : decode cX12_round 72 = .ok (.getfield 88, 3) := by decide +kernel
theorem dX12_round_75 : decode cX12_round 75 = .ok (.bipush 10, 2) := by decide +kernel
theorem dX12_round_77 : decode cX12_round 77 = .ok (.iload 4, 2) := by decide +kernel
theorem dX12_round_79 : decode cX12_round 79 = .ok (.imul, 1) := by decide +kernel
theorem dX12_round_80 : decode cX12_round 80 = .ok (.iload 5, 2) := by decide +kernel
theorem dX12_round_82 : decode cX12_round 82 = .ok (.iadd, 1) := by decide +kernel
theorem dX12_round_83 : decode cX12_round 83 = .ok (.aload_n 0, 1) := by decide +kernel
theorem dX12_round_84 : decode cX12_round 84 = .ok (.getfield 69, 3) := by decide +kernel
theorem dX12_round_87 : decode cX12_round 87 = .ok (.iload 5, 2) := by decide +kernel
theorem dX12_round_89 : decode cX12_round 89 = .ok (.iaload, 1) := by decide +kernel
theorem dX12_round_90 : decode cX12_round 90 = .ok (.iastore, 1) := by decide +kernel
theorem dX12_round_91 : decode cX12_round 91 = .ok (.aload_n 0, 1) := by decide +kernel
theorem dX12_round_92 : decode cX12_round 92 = .ok (.getfield 91, 3) := by decide +kernel
theorem dX12_round_95 : decode cX12_round 95 = .ok (.bipush 10, 2) := by decide +kernel
theorem dX12_round_97 : decode cX12_round 97 = .ok (.iload 4, 2) := by decide +kernel
theorem dX12_round_99 : decode cX12_round 99 = .ok (.imul, 1) := by decide +kernel
theorem dX12_round_100 : decode cX12_round 100 = .ok (.iload 5, 2) := by decide +kernel
theorem dX12_round_102 : decode cX12_round 102 = .ok (.iadd, 1) := by decide +kernel
theorem dX12_round_103 : decode cX12_round 103 = .ok (.aload_n 0, 1) := by decide +kernel
theorem dX12_round_104 : decode cX12_round 104 = .ok (.getfield 72, 3) := by decide +kernel
theorem dX12_round_107 : decode cX12_round 107 = .ok (.iload 5, 2) := by decide +kernel
theorem dX12_round_109 : decode cX12_round 109 = .ok (.iaload, 1) := by decide +kernel
theorem dX12_round_110 : decode cX12_round 110 = .ok (.iastore, 1) := by decide +kernel
theorem dX12_round_111 : decode cX12_round 111 = .ok (.iinc 5 1, 3) := by decide +kernel
theorem dX12_round_114 : decode cX12_round 114 = .ok (.goto (-52), 3) := by decide +kernel
theorem dX12_round_117 : decode cX12_round 117 = .ok (.iconst 0, 1) := by decide +kernel
theorem dX12_round_118 : decode cX12_round 118 = .ok (.istore 5, 2) := by decide +kernel
theorem dX12_round_120 : decode cX12_round 120 = .ok (.iload 5, 2) := by decide +kernel
theorem dX12_round_122 : decode cX12_round 122 = .ok (.iload 4, 2) := by decide +kernel
theorem dX12_round_124 : decode cX12_round 124 = .ok (.if_icmp .ge 32, 3) := by decide +kernel
theorem dX12_round_127 : decode cX12_round 127 = .ok (.aload_n 0, 1) := by decide +kernel
theorem dX12_round_128 : decode cX12_round 128 = .ok (.iload 5, 2) := by decide +kernel
theorem dX12_round_130 : decode cX12_round 130 = .ok (.iload 4, 2) := by decide +kernel
theorem dX12_round_132 : decode cX12_round 132 = .ok (.invokevirtual 302, 3) := by decide +kernel
theorem dX12_round_135 : decode cX12_round 135 = .ok (.ifCond .eq 15, 3) := by decide +kernel
theorem dX12_round_138 : decode cX12_round 138 = .ok (.iload_n 3, 1) := by decide +kernel
theorem dX12_round_139 : decode cX12_round 139 = .ok (.ifCond .ne 8, 3) := by decide +kernel
theorem dX12_round_142 : decode cX12_round 142 = .ok (.iload 4, 2) := by decide +kernel
theorem dX12_round_144 : decode cX12_round 144 = .ok (.goto 5, 3) := by decide +kernel
theorem dX12_round_147 : decode cX12_round 147 = .ok (.iload 5, 2) := by decide +kernel
theorem dX12_round_149 : decode cX12_round 149 = .ok (.ireturn, 1) := by decide +kernel
theorem dX12_round_150 : decode cX12_round 150 = .ok (.iinc 5 1, 3) := by decide +kernel
theorem dX12_round_153 : decode cX12_round 153 = .ok (.goto (-33), 3) := by decide +kernel
theorem dX12_round_156 : decode cX12_round 156 = .ok (.iinc 4 1, 3) := by decide +kernel
theorem dX12_round_159 : decode cX12_round 159 = .ok (.goto (-115), 3) := by decide +kernel
theorem dX12_round_162 : decode cX12_round 162 = .ok (.iconst (-1), 1) := by decide +kernel
theorem dX12_round_163 : decode cX12_round 163 = .ok (.ireturn, 1) := by decide +kernel
theorem dX12_lent_0 : decode cX12_lent 0 = .ok (.aload_n 0, 1) := by decide +kernel
theorem dX12_lent_1 : decode cX12_lent 1 = .ok (.iload_n 1, 1) := by decide +kernel
theorem dX12_lent_2 : decode cX12_lent 2 = .ok (.invokevirtual 263, 3) := by decide +kernel
theorem dX12_lent_5 : decode cX12_lent 5 = .ok (.ifCond .eq 28, 3) := by decide +kernel
theorem dX12_lent_8 : decode cX12_lent 8 = .ok (.aload_n 0, 1) := by decide +kernel
theorem dX12_lent_9 : decode cX12_lent 9 = .ok (.iload_n 1, 1) := by decide +kernel
theorem dX12_lent_10 : decode cX12_lent 10 = .ok (.invokevirtual 269, 3) := by decide +kernel
theorem dX12_lent_13 : decode cX12_lent 13 = .ok (.ifCond .ne 20, 3) := by decide +kernel
theorem dX12_lent_16 : decode cX12_lent 16 = .ok (.aload_n 0, 1) := by decide +kernel
theorem dX12_lent_17 : decode cX12_lent 17 = .ok (.iload_n 2, 1) := by decide +kernel
theorem dX12_lent_18 : decode cX12_lent 18 = .ok (.invokevirtual 134, 3) := by decide +kernel
theorem dX12_lent_21 : decode cX12_lent 21 = .ok (.ifCond .eq 12, 3) := by decide +kernel
theorem dX12_lent_24 : decode cX12_lent 24 = .ok (.iload_n 3, 1) := by decide +kernel
theorem dX12_lent_25 : decode cX12_lent 25 = .ok (.iconst 0, 1) := by decide +kernel
theorem dX12_lent_26 : decode cX12_lent 26 = .ok (.iconst 3, 1) := by decide +kernel
theorem dX12_lent_27 : decode cX12_lent 27 = .ok (.invokestatic 127, 3) := by decide +kernel
theorem dX12_lent_30 : decode cX12_lent 30 = .ok (.ifCond .ne 7, 3) := by decide +kernel
theorem dX12_lent_33 : decode cX12_lent 33 = .ok (.ldc2_w 296, 3) := by decide +kernel
theorem dX12_lent_36 : decode cX12_lent 36 = .ok (.lreturn, 1) := by decide +kernel
theorem dX12_lent_37 : decode cX12_lent 37 = .ok (.aload_n 0, 1) := by decide +kernel
theorem dX12_lent_38 : decode cX12_lent 38 = .ok (.invokevirtual 272, 3) := by decide +kernel
theorem dX12_lent_41 : decode cX12_lent 41 = .ok (.aload_n 0, 1) := by decide +kernel
theorem dX12_lent_42 : decode cX12_lent 42 = .ok (.iload_n 1, 1) := by decide +kernel
theorem dX12_lent_43 : decode cX12_lent 43 = .ok (.invokevirtual 298, 3) := by decide +kernel
theorem dX12_lent_46 : decode cX12_lent 46 = .ok (.lstore 4, 2) := by decide +kernel
theorem dX12_lent_48 : decode cX12_lent 48 = .ok (.aload_n 0, 1) := by decide +kernel
theorem dX12_lent_49 : decode cX12_lent 49 = .ok (.getfield 29, 3) := by decide +kernel
theorem dX12_lent_52 : decode cX12_lent 52 = .ok (.iload_n 2, 1) := by decide +kernel
theorem dX12_lent_53 : decode cX12_lent 53 = .ok (.iaload, 1) := by decide +kernel
theorem dX12_lent_54 : decode cX12_lent 54 = .ok (.istore 6, 2) := by decide +kernel
theorem dX12_lent_56 : decode cX12_lent 56 = .ok (.aload_n 0, 1) := by decide +kernel
theorem dX12_lent_57 : decode cX12_lent 57 = .ok (.getfield 29, 3) := by decide +kernel
theorem dX12_lent_60 : decode cX12_lent 60 = .ok (.iload_n 2, 1) := by decide +kernel
theorem dX12_lent_61 : decode cX12_lent 61 = .ok (.iload_n 3, 1) := by decide +kernel
theorem dX12_lent_62 : decode cX12_lent 62 = .ok (.iastore, 1) := by decide +kernel
theorem dX12_lent_63 : decode cX12_lent 63 = .ok (.aload_n 0, 1) := by decide +kernel
theorem dX12_lent_64 : decode cX12_lent 64 = .ok (.invokevirtual 272, 3) := by decide +kernel
theorem dX12_lent_67 : decode cX12_lent 67 = .ok (.aload_n 0, 1) := by decide +kernel
theorem dX12_lent_68 : decode cX12_lent 68 = .ok (.iload_n 1, 1) := by decide +kernel
theorem dX12_lent_69 : decode cX12_lent 69 = .ok (.invokevirtual 298, 3) := by decide +kernel
theorem dX12_lent_72 : decode cX12_lent 72 = .ok (.lstore 7, 2) := by decide +kernel
theorem dX12_lent_74 : decode cX12_lent 74 = .ok (.aload_n 0, 1) := by decide +kernel
theorem dX12_lent_75 : decode cX12_lent 75 = .ok (.getfield 29, 3) := by decide +kernel
theorem dX12_lent_78 : decode cX12_lent 78 = .ok (.iload_n 2, 1) := by decide +kernel
theorem dX12_lent_79 : decode cX12_lent 79 = .ok (.iload 6, 2) := by decide +kernel
theorem dX12_lent_81 : decode cX12_lent 81 = .ok (.iastore, 1) := by decide +kernel
theorem dX12_lent_82 : decode cX12_lent 82 = .ok (.lload 7, 2) := by decide +kernel
theorem dX12_lent_84 : decode cX12_lent 84 = .ok (.lload 4, 2) := by decide +kernel
theorem dX12_lent_86 : decode cX12_lent 86 = .ok (.lsub, 1) := by decide +kernel
theorem dX12_lent_87 : decode cX12_lent 87 = .ok (.lreturn, 1) := by decide +kernel
theorem dX12_lost_0 : decode cX12_lost 0 = .ok (.aload_n 0, 1) := by decide +kernel
theorem dX12_lost_1 : decode cX12_lost 1 = .ok (.iload_n 1, 1) := by decide +kernel
theorem dX12_lost_2 : decode cX12_lost 2 = .ok (.invokevirtual 263, 3) := by decide +kernel
theorem dX12_lost_5 : decode cX12_lost 5 = .ok (.ifCond .eq 29, 3) := by decide +kernel
theorem dX12_lost_8 : decode cX12_lost 8 = .ok (.aload_n 0, 1) := by decide +kernel
theorem dX12_lost_9 : decode cX12_lost 9 = .ok (.iload_n 1, 1) := by decide +kernel
theorem dX12_lost_10 : decode cX12_lost 10 = .ok (.invokevirtual 269, 3) := by decide +kernel
theorem dX12_lost_13 : decode cX12_lost 13 = .ok (.ifCond .ne 21, 3) := by decide +kernel
theorem dX12_lost_16 : decode cX12_lost 16 = .ok (.aload_n 0, 1) := by decide +kernel
theorem dX12_lost_17 : decode cX12_lost 17 = .ok (.iload_n 2, 1) := by decide +kernel
theorem dX12_lost_18 : decode cX12_lost 18 = .ok (.invokevirtual 134, 3) := by decide +kernel
theorem dX12_lost_21 : decode cX12_lost 21 = .ok (.ifCond .eq 13, 3) := by decide +kernel
theorem dX12_lost_24 : decode cX12_lost 24 = .ok (.iload_n 3, 1) := by decide +kernel
theorem dX12_lost_25 : decode cX12_lost 25 = .ok (.iconst 0, 1) := by decide +kernel
theorem dX12_lost_26 : decode cX12_lost 26 = .ok (.bipush 47, 2) := by decide +kernel
theorem dX12_lost_28 : decode cX12_lost 28 = .ok (.invokestatic 127, 3) := by decide +kernel
theorem dX12_lost_31 : decode cX12_lost 31 = .ok (.ifCond .ne 7, 3) := by decide +kernel
theorem dX12_lost_34 : decode cX12_lost 34 = .ok (.ldc2_w 296, 3) := by decide +kernel
theorem dX12_lost_37 : decode cX12_lost 37 = .ok (.lreturn, 1) := by decide +kernel
theorem dX12_lost_38 : decode cX12_lost 38 = .ok (.aload_n 0, 1) := by decide +kernel
theorem dX12_lost_39 : decode cX12_lost 39 = .ok (.invokevirtual 272, 3) := by decide +kernel
theorem dX12_lost_42 : decode cX12_lost 42 = .ok (.aload_n 0, 1) := by decide +kernel
theorem dX12_lost_43 : decode cX12_lost 43 = .ok (.iload_n 1, 1) := by decide +kernel
theorem dX12_lost_44 : decode cX12_lost 44 = .ok (.invokevirtual 298, 3) := by decide +kernel
theorem dX12_lost_47 : decode cX12_lost 47 = .ok (.lstore 4, 2) := by decide +kernel
theorem dX12_lost_49 : decode cX12_lost 49 = .ok (.aload_n 0, 1) := by decide +kernel
theorem dX12_lost_50 : decode cX12_lost 50 = .ok (.invokevirtual 272, 3) := by decide +kernel
theorem dX12_lost_53 : decode cX12_lost 53 = .ok (.aload_n 0, 1) := by decide +kernel
theorem dX12_lost_54 : decode cX12_lost 54 = .ok (.iload_n 2, 1) := by decide +kernel
theorem dX12_lost_55 : decode cX12_lost 55 = .ok (.putfield 235, 3) := by decide +kernel
theorem dX12_lost_58 : decode cX12_lost 58 = .ok (.aload_n 0, 1) := by decide +kernel
theorem dX12_lost_59 : decode cX12_lost 59 = .ok (.iload_n 3, 1) := by decide +kernel
theorem dX12_lost_60 : decode cX12_lost 60 = .ok (.putfield 257, 3) := by decide +kernel
theorem dX12_lost_63 : decode cX12_lost 63 = .ok (.aload_n 0, 1) := by decide +kernel
theorem dX12_lost_64 : decode cX12_lost 64 = .ok (.iload_n 1, 1) := by decide +kernel
theorem dX12_lost_65 : decode cX12_lost 65 = .ok (.invokevirtual 298, 3) := by decide +kernel
theorem dX12_lost_68 : decode cX12_lost 68 = .ok (.lload 4, 2) := by decide +kernel
theorem dX12_lost_70 : decode cX12_lost 70 = .ok (.lsub, 1) := by decide +kernel
theorem dX12_lost_71 : decode cX12_lost 71 = .ok (.lreturn, 1) := by decide +kernel
theorem dX12_who_0 : decode cX12_who 0 = .ok (.iload_n 1, 1) := by decide +kernel
theorem dX12_who_1 : decode cX12_who 1 = .ok (.invokestatic 305, 3) := by decide +kernel
theorem dX12_who_4 : decode cX12_who 4 = .ok (.ifCond .ne 6, 3) := by decide +kernel
theorem dX12_who_7 : decode cX12_who 7 = .ok (.bipush (-2), 2) := by decide +kernel
theorem dX12_who_9 : decode cX12_who 9 = .ok (.ireturn, 1) := by decide +kernel
theorem dX12_who_10 : decode cX12_who 10 = .ok (.aload_n 0, 1) := by decide +kernel
theorem dX12_who_11 : decode cX12_who 11 = .ok (.getfield 109, 3) := by decide +kernel
theorem dX12_who_14 : decode cX12_who 14 = .ok (.iload_n 1, 1) := by decide +kernel
theorem dX12_who_15 : decode cX12_who 15 = .ok (.iaload, 1) := by decide +kernel
theorem dX12_who_16 : decode cX12_who 16 = .ok (.ifCond .ge 6, 3) := by decide +kernel
theorem dX12_who_19 : decode cX12_who 19 = .ok (.bipush (-11), 2) := by decide +kernel
theorem dX12_who_21 : decode cX12_who 21 = .ok (.ireturn, 1) := by decide +kernel
theorem dX12_who_22 : decode cX12_who 22 = .ok (.aload_n 0, 1) := by decide +kernel
theorem dX12_who_23 : decode cX12_who 23 = .ok (.invokevirtual 272, 3) := by decide +kernel
theorem dX12_who_26 : decode cX12_who 26 = .ok (.aload_n 0, 1) := by decide +kernel
theorem dX12_who_27 : decode cX12_who 27 = .ok (.iconst 2, 1) := by decide +kernel
theorem dX12_who_28 : decode cX12_who 28 = .ok (.iload_n 1, 1) := by decide +kernel
theorem dX12_who_29 : decode cX12_who 29 = .ok (.iadd, 1) := by decide +kernel
theorem dX12_who_30 : decode cX12_who 30 = .ok (.invokevirtual 298, 3) := by decide +kernel
theorem dX12_who_33 : decode cX12_who 33 = .ok (.lstore_n 2, 1) := by decide +kernel
theorem dX12_who_34 : decode cX12_who 34 = .ok (.iconst (-1), 1) := by decide +kernel
theorem dX12_who_35 : decode cX12_who 35 = .ok (.istore 4, 2) := by decide +kernel
theorem dX12_who_37 : decode cX12_who 37 = .ok (.iconst 0, 1) := by decide +kernel
theorem dX12_who_38 : decode cX12_who 38 = .ok (.istore 5, 2) := by decide +kernel
theorem dX12_who_40 : decode cX12_who 40 = .ok (.iload 5, 2) := by decide +kernel
theorem dX12_who_42 : decode cX12_who 42 = .ok (.aload_n 0, 1) := by decide +kernel
theorem dX12_who_43 : decode cX12_who 43 = .ok (.getfield 7, 3) := by decide +kernel
theorem dX12_who_46 : decode cX12_who 46 = .ok (.if_icmp .ge 75, 3) := by decide +kernel
theorem dX12_who_49 : decode cX12_who 49 = .ok (.iconst 0, 1) := by decide +kernel
theorem dX12_who_50 : decode cX12_who 50 = .ok (.istore 6, 2) := by decide +kernel
theorem dX12_who_52 : decode cX12_who 52 = .ok (.iload 6, 2) := by decide +kernel
theorem dX12_who_54 : decode cX12_who 54 = .ok (.aload_n 0, 1) := by decide +kernel
theorem dX12_who_55 : decode cX12_who 55 = .ok (.getfield 124, 3) := by decide +kernel
theorem dX12_who_58 : decode cX12_who 58 = .ok (.if_icmp .ge 57, 3) := by decide +kernel
theorem dX12_who_61 : decode cX12_who 61 = .ok (.aload_n 0, 1) := by decide +kernel
theorem dX12_who_62 : decode cX12_who 62 = .ok (.invokevirtual 272, 3) := by decide +kernel
theorem dX12_who_65 : decode cX12_who 65 = .ok (.aload_n 0, 1) := by decide +kernel
theorem dX12_who_66 : decode cX12_who 66 = .ok (.iload 6, 2) := by decide +kernel
theorem dX12_who_68 : decode cX12_who 68 = .ok (.putfield 238, 3) := by decide +kernel
theorem dX12_who_71 : decode cX12_who 71 = .ok (.aload_n 0, 1) := by decide +kernel
theorem dX12_who_72 : decode cX12_who 72 = .ok (.iload 5, 2) := by decide +kernel
theorem dX12_who_74 : decode cX12_who 74 = .ok (.putfield 241, 3) := by decide +kernel
theorem dX12_who_77 : decode cX12_who 77 = .ok (.aload_n 0, 1) := by decide +kernel
theorem dX12_who_78 : decode cX12_who 78 = .ok (.iconst 2, 1) := by decide +kernel
theorem dX12_who_79 : decode cX12_who 79 = .ok (.iload_n 1, 1) := by decide +kernel
theorem dX12_who_80 : decode cX12_who 80 = .ok (.iadd, 1) := by decide +kernel
theorem dX12_who_81 : decode cX12_who 81 = .ok (.invokevirtual 298, 3) := by decide +kernel
theorem dX12_who_84 : decode cX12_who 84 = .ok (.lstore 7, 2) := by decide +kernel
theorem dX12_who_86 : decode cX12_who 86 = .ok (.lload 7, 2) := by decide +kernel
theorem dX12_who_88 : decode cX12_who 88 = .ok (.lload_n 2, 1) := by decide +kernel
theorem dX12_who_89 : decode cX12_who 89 = .ok (.lcmp, 1) := by decide +kernel
theorem dX12_who_90 : decode cX12_who 90 = .ok (.ifCond .lt 6, 3) := by decide +kernel
theorem dX12_who_93 : decode cX12_who 93 = .ok (.goto 16, 3) := by decide +kernel
theorem dX12_who_96 : decode cX12_who 96 = .ok (.lload 7, 2) := by decide +kernel
theorem dX12_who_98 : decode cX12_who 98 = .ok (.lstore_n 2, 1) := by decide +kernel
theorem dX12_who_99 : decode cX12_who 99 = .ok (.bipush 100, 2) := by decide +kernel
theorem dX12_who_101 : decode cX12_who 101 = .ok (.iload 6, 2) := by decide +kernel
theorem dX12_who_103 : decode cX12_who 103 = .ok (.imul, 1) := by decide +kernel
theorem dX12_who_104 : decode cX12_who 104 = .ok (.iload 5, 2) := by decide +kernel
theorem dX12_who_106 : decode cX12_who 106 = .ok (.iadd, 1) := by decide +kernel
theorem dX12_who_107 : decode cX12_who 107 = .ok (.istore 4, 2) := by decide +kernel
theorem dX12_who_109 : decode cX12_who 109 = .ok (.iinc 6 1, 3) := by decide +kernel
theorem dX12_who_112 : decode cX12_who 112 = .ok (.goto (-60), 3) := by decide +kernel
theorem dX12_who_115 : decode cX12_who 115 = .ok (.iinc 5 1, 3) := by decide +kernel
theorem dX12_who_118 : decode cX12_who 118 = .ok (.goto (-78), 3) := by decide +kernel
theorem dX12_who_121 : decode cX12_who 121 = .ok (.iload 4, 2) := by decide +kernel
theorem dX12_who_123 : decode cX12_who 123 = .ok (.ireturn, 1) := by decide +kernel
theorem dX12_image_0 : decode cX12_image 0 = .ok (.aload_n 0, 1) := by decide +kernel
theorem dX12_image_1 : decode cX12_image 1 = .ok (.iconst 1, 1) := by decide +kernel
theorem dX12_image_2 : decode cX12_image 2 = .ok (.putfield 308, 3) := by decide +kernel
theorem dX12_image_5 : decode cX12_image 5 = .ok (.aload_n 0, 1) := by decide +kernel
theorem dX12_image_6 : decode cX12_image 6 = .ok (.aload_n 0, 1) := by decide +kernel
theorem dX12_image_7 : decode cX12_image 7 = .ok (.getfield 7, 3) := by decide +kernel
theorem dX12_image_10 : decode cX12_image 10 = .ok (.putfield 312, 3) := by decide +kernel
theorem dX12_image_13 : decode cX12_image 13 = .ok (.aload_n 0, 1) := by decide +kernel
theorem dX12_image_14 : decode cX12_image 14 = .ok (.aload_n 0, 1) := by decide +kernel
theorem dX12_image_15 : decode cX12_image 15 = .ok (.getfield 131, 3) := by decide +kernel
theorem dX12_image_18 : decode cX12_image 18 = .ok (.putfield 315, 3) := by decide +kernel
theorem dX12_image_21 : decode cX12_image 21 = .ok (.aload_n 0, 1) := by decide +kernel
theorem dX12_image_22 : decode cX12_image 22 = .ok (.aload_n 0, 1) := by decide +kernel
theorem dX12_image_23 : decode cX12_image 23 = .ok (.getfield 226, 3) := by decide +kernel
theorem dX12_image_26 : decode cX12_image 26 = .ok (.putfield 318, 3) := by decide +kernel
theorem dX12_image_29 : decode cX12_image 29 = .ok (.aload_n 0, 1) := by decide +kernel
theorem dX12_image_30 : decode cX12_image 30 = .ok (.aload_n 0, 1) := by decide +kernel
theorem dX12_image_31 : decode cX12_image 31 = .ok (.getfield 124, 3) := by decide +kernel
theorem dX12_image_34 : decode cX12_image 34 = .ok (.putfield 321, 3) := by decide +kernel
theorem dX12_image_37 : decode cX12_image 37 = .ok (.iconst 0, 1) := by decide +kernel
theorem dX12_image_38 : decode cX12_image 38 = .ok (.istore_n 1, 1) := by decide +kernel
theorem dX12_image_39 : decode cX12_image 39 = .ok (.iload_n 1, 1) := by decide +kernel
theorem dX12_image_40 : decode cX12_image 40 = .ok (.bipush 48, 2) := by decide +kernel
theorem dX12_image_42 : decode cX12_image 42 = .ok (.if_icmp .ge 45, 3) := by decide +kernel
theorem dX12_image_45 : decode cX12_image 45 = .ok (.aload_n 0, 1) := by decide +kernel
theorem dX12_image_46 : decode cX12_image 46 = .ok (.getfield 94, 3) := by decide +kernel
theorem dX12_image_49 : decode cX12_image 49 = .ok (.iload_n 1, 1) := by decide +kernel
theorem dX12_image_50 : decode cX12_image 50 = .ok (.aload_n 0, 1) := by decide +kernel
theorem dX12_image_51 : decode cX12_image 51 = .ok (.getfield 13, 3) := by decide +kernel
theorem dX12_image_54 : decode cX12_image 54 = .ok (.iload_n 1, 1) := by decide +kernel
theorem dX12_image_55 : decode cX12_image 55 = .ok (.iaload, 1) := by decide +kernel
theorem dX12_image_56 : decode cX12_image 56 = .ok (.iastore, 1) := by decide +kernel
theorem dX12_image_57 : decode cX12_image 57 = .ok (.aload_n 0, 1) := by decide +kernel
theorem dX12_image_58 : decode cX12_image 58 = .ok (.getfield 97, 3) := by decide +kernel
theorem dX12_image_61 : decode cX12_image 61 = .ok (.iload_n 1, 1) := by decide +kernel
theorem dX12_image_62 : decode cX12_image 62 = .ok (.aload_n 0, 1) := by decide +kernel
theorem dX12_image_63 : decode cX12_image 63 = .ok (.getfield 17, 3) := by decide +kernel
theorem dX12_image_66 : decode cX12_image 66 = .ok (.iload_n 1, 1) := by decide +kernel
theorem dX12_image_67 : decode cX12_image 67 = .ok (.iaload, 1) := by decide +kernel
theorem dX12_image_68 : decode cX12_image 68 = .ok (.iastore, 1) := by decide +kernel
theorem dX12_image_69 : decode cX12_image 69 = .ok (.aload_n 0, 1) := by decide +kernel
theorem dX12_image_70 : decode cX12_image 70 = .ok (.getfield 100, 3) := by decide +kernel
theorem dX12_image_73 : decode cX12_image 73 = .ok (.iload_n 1, 1) := by decide +kernel
theorem dX12_image_74 : decode cX12_image 74 = .ok (.aload_n 0, 1) := by decide +kernel
theorem dX12_image_75 : decode cX12_image 75 = .ok (.getfield 20, 3) := by decide +kernel
theorem dX12_image_78 : decode cX12_image 78 = .ok (.iload_n 1, 1) := by decide +kernel
theorem dX12_image_79 : decode cX12_image 79 = .ok (.iaload, 1) := by decide +kernel
theorem dX12_image_80 : decode cX12_image 80 = .ok (.iastore, 1) := by decide +kernel
theorem dX12_image_81 : decode cX12_image 81 = .ok (.iinc 1 1, 3) := by decide +kernel
theorem dX12_image_84 : decode cX12_image 84 = .ok (.goto (-45), 3) := by decide +kernel
theorem dX12_image_87 : decode cX12_image 87 = .ok (.iconst 0, 1) := by decide +kernel
theorem dX12_image_88 : decode cX12_image 88 = .ok (.istore_n 1, 1) := by decide +kernel
theorem dX12_image_89 : decode cX12_image 89 = .ok (.iload_n 1, 1) := by decide +kernel
theorem dX12_image_90 : decode cX12_image 90 = .ok (.iconst 4, 1) := by decide +kernel
theorem dX12_image_91 : decode cX12_image 91 = .ok (.if_icmp .ge 21, 3) := by decide +kernel
theorem dX12_image_94 : decode cX12_image 94 = .ok (.aload_n 0, 1) := by decide +kernel
theorem dX12_image_95 : decode cX12_image 95 = .ok (.getfield 103, 3) := by decide +kernel
theorem dX12_image_98 : decode cX12_image 98 = .ok (.iload_n 1, 1) := by decide +kernel
theorem dX12_image_99 : decode cX12_image 99 = .ok (.aload_n 0, 1) := by decide +kernel
theorem dX12_image_100 : decode cX12_image 100 = .ok (.getfield 23, 3) := by decide +kernel
theorem dX12_image_103 : decode cX12_image 103 = .ok (.iload_n 1, 1) := by decide +kernel
theorem dX12_image_104 : decode cX12_image 104 = .ok (.iaload, 1) := by decide +kernel
theorem dX12_image_105 : decode cX12_image 105 = .ok (.iastore, 1) := by decide +kernel
theorem dX12_image_106 : decode cX12_image 106 = .ok (.iinc 1 1, 3) := by decide +kernel
theorem dX12_image_109 : decode cX12_image 109 = .ok (.goto (-20), 3) := by decide +kernel
theorem dX12_image_112 : decode cX12_image 112 = .ok (.iconst 0, 1) := by decide +kernel
theorem dX12_image_113 : decode cX12_image 113 = .ok (.istore_n 1, 1) := by decide +kernel
theorem dX12_image_114 : decode cX12_image 114 = .ok (.iload_n 1, 1) := by decide +kernel
theorem dX12_image_115 : decode cX12_image 115 = .ok (.bipush 10, 2) := by decide +kernel
theorem dX12_image_117 : decode cX12_image 117 = .ok (.if_icmp .ge 21, 3) := by decide +kernel
theorem dX12_image_120 : decode cX12_image 120 = .ok (.aload_n 0, 1) := by decide +kernel
theorem dX12_image_121 : decode cX12_image 121 = .ok (.getfield 106, 3) := by decide +kernel
theorem dX12_image_124 : decode cX12_image 124 = .ok (.iload_n 1, 1) := by decide +kernel
theorem dX12_image_125 : decode cX12_image 125 = .ok (.aload_n 0, 1) := by decide +kernel
theorem dX12_image_126 : decode cX12_image 126 = .ok (.getfield 29, 3) := by decide +kernel
theorem dX12_image_129 : decode cX12_image 129 = .ok (.iload_n 1, 1) := by decide +kernel
theorem dX12_image_130 : decode cX12_image 130 = .ok (.iaload, 1) := by decide +kernel
theorem dX12_image_131 : decode cX12_image 131 = .ok (.iastore, 1) := by decide +kernel
theorem dX12_image_132 : decode cX12_image 132 = .ok (.iinc 1 1, 3) := by decide +kernel
theorem dX12_image_135 : decode cX12_image 135 = .ok (.goto (-21), 3) := by decide +kernel
theorem dX12_image_138 : decode cX12_image 138 = .ok (.aload_n 0, 1) := by decide +kernel
theorem dX12_image_139 : decode cX12_image 139 = .ok (.getfield 124, 3) := by decide +kernel
theorem dX12_image_142 : decode cX12_image 142 = .ok (.ireturn, 1) := by decide +kernel
theorem dX12_back_0 : decode cX12_back 0 = .ok (.aload_n 0, 1) := by decide +kernel
theorem dX12_back_1 : decode cX12_back 1 = .ok (.getfield 308, 3) := by decide +kernel
theorem dX12_back_4 : decode cX12_back 4 = .ok (.ifCond .ne 6, 3) := by decide +kernel
theorem dX12_back_7 : decode cX12_back 7 = .ok (.bipush (-3), 2) := by decide +kernel
theorem dX12_back_9 : decode cX12_back 9 = .ok (.ireturn, 1) := by decide +kernel
theorem dX12_back_10 : decode cX12_back 10 = .ok (.aload_n 0, 1) := by decide +kernel
theorem dX12_back_11 : decode cX12_back 11 = .ok (.aload_n 0, 1) := by decide +kernel
theorem dX12_back_12 : decode cX12_back 12 = .ok (.getfield 312, 3) := by decide +kernel
theorem dX12_back_15 : decode cX12_back 15 = .ok (.putfield 7, 3) := by decide +kernel
theorem dX12_back_18 : decode cX12_back 18 = .ok (.aload_n 0, 1) := by decide +kernel
theorem dX12_back_19 : decode cX12_back 19 = .ok (.aload_n 0, 1) := by decide +kernel
theorem dX12_back_20 : decode cX12_back 20 = .ok (.getfield 315, 3) := by decide +kernel
theorem dX12_back_23 : decode cX12_back 23 = .ok (.putfield 131, 3) := by decide +kernel
theorem dX12_back_26 : decode cX12_back 26 = .ok (.aload_n 0, 1) := by decide +kernel
theorem dX12_back_27 : decode cX12_back 27 = .ok (.aload_n 0, 1) := by decide +kernel
theorem dX12_back_28 : decode cX12_back 28 = .ok (.getfield 318, 3) := by decide +kernel
theorem dX12_back_31 : decode cX12_back 31 = .ok (.putfield 226, 3) := by decide +kernel
theorem dX12_back_34 : decode cX12_back 34 = .ok (.iconst 0, 1) := by decide +kernel
theorem dX12_back_35 : decode cX12_back 35 = .ok (.istore_n 1, 1) := by decide +kernel
theorem dX12_back_36 : decode cX12_back 36 = .ok (.iload_n 1, 1) := by decide +kernel
theorem dX12_back_37 : decode cX12_back 37 = .ok (.bipush 48, 2) := by decide +kernel
theorem dX12_back_39 : decode cX12_back 39 = .ok (.if_icmp .ge 45, 3) := by decide +kernel
theorem dX12_back_42 : decode cX12_back 42 = .ok (.aload_n 0, 1) := by decide +kernel
theorem dX12_back_43 : decode cX12_back 43 = .ok (.getfield 13, 3) := by decide +kernel
theorem dX12_back_46 : decode cX12_back 46 = .ok (.iload_n 1, 1) := by decide +kernel
theorem dX12_back_47 : decode cX12_back 47 = .ok (.aload_n 0, 1) := by decide +kernel
theorem dX12_back_48 : decode cX12_back 48 = .ok (.getfield 94, 3) := by decide +kernel
theorem dX12_back_51 : decode cX12_back 51 = .ok (.iload_n 1, 1) := by decide +kernel
theorem dX12_back_52 : decode cX12_back 52 = .ok (.iaload, 1) := by decide +kernel
theorem dX12_back_53 : decode cX12_back 53 = .ok (.iastore, 1) := by decide +kernel
theorem dX12_back_54 : decode cX12_back 54 = .ok (.aload_n 0, 1) := by decide +kernel
theorem dX12_back_55 : decode cX12_back 55 = .ok (.getfield 17, 3) := by decide +kernel
theorem dX12_back_58 : decode cX12_back 58 = .ok (.iload_n 1, 1) := by decide +kernel
theorem dX12_back_59 : decode cX12_back 59 = .ok (.aload_n 0, 1) := by decide +kernel
theorem dX12_back_60 : decode cX12_back 60 = .ok (.getfield 97, 3) := by decide +kernel
theorem dX12_back_63 : decode cX12_back 63 = .ok (.iload_n 1, 1) := by decide +kernel
theorem dX12_back_64 : decode cX12_back 64 = .ok (.iaload, 1) := by decide +kernel
theorem dX12_back_65 : decode cX12_back 65 = .ok (.iastore, 1) := by decide +kernel
theorem dX12_back_66 : decode cX12_back 66 = .ok (.aload_n 0, 1) := by decide +kernel
theorem dX12_back_67 : decode cX12_back 67 = .ok (.getfield 20, 3) := by decide +kernel
theorem dX12_back_70 : decode cX12_back 70 = .ok (.iload_n 1, 1) := by decide +kernel
theorem dX12_back_71 : decode cX12_back 71 = .ok (.aload_n 0, 1) := by decide +kernel
theorem dX12_back_72 : decode cX12_back 72 = .ok (.getfield 100, 3) := by decide +kernel
theorem dX12_back_75 : decode cX12_back 75 = .ok (.iload_n 1, 1) := by decide +kernel
theorem dX12_back_76 : decode cX12_back 76 = .ok (.iaload, 1) := by decide +kernel
theorem dX12_back_77 : decode cX12_back 77 = .ok (.iastore, 1) := by decide +kernel
theorem dX12_back_78 : decode cX12_back 78 = .ok (.iinc 1 1, 3) := by decide +kernel
theorem dX12_back_81 : decode cX12_back 81 = .ok (.goto (-45), 3) := by decide +kernel
theorem dX12_back_84 : decode cX12_back 84 = .ok (.iconst 0, 1) := by decide +kernel
theorem dX12_back_85 : decode cX12_back 85 = .ok (.istore_n 1, 1) := by decide +kernel
theorem dX12_back_86 : decode cX12_back 86 = .ok (.iload_n 1, 1) := by decide +kernel
theorem dX12_back_87 : decode cX12_back 87 = .ok (.iconst 4, 1) := by decide +kernel
theorem dX12_back_88 : decode cX12_back 88 = .ok (.if_icmp .ge 21, 3) := by decide +kernel
theorem dX12_back_91 : decode cX12_back 91 = .ok (.aload_n 0, 1) := by decide +kernel
theorem dX12_back_92 : decode cX12_back 92 = .ok (.getfield 23, 3) := by decide +kernel
theorem dX12_back_95 : decode cX12_back 95 = .ok (.iload_n 1, 1) := by decide +kernel
theorem dX12_back_96 : decode cX12_back 96 = .ok (.aload_n 0, 1) := by decide +kernel
theorem dX12_back_97 : decode cX12_back 97 = .ok (.getfield 103, 3) := by decide +kernel
theorem dX12_back_100 : decode cX12_back 100 = .ok (.iload_n 1, 1) := by decide +kernel
theorem dX12_back_101 : decode cX12_back 101 = .ok (.iaload, 1) := by decide +kernel
theorem dX12_back_102 : decode cX12_back 102 = .ok (.iastore, 1) := by decide +kernel
theorem dX12_back_103 : decode cX12_back 103 = .ok (.iinc 1 1, 3) := by decide +kernel
theorem dX12_back_106 : decode cX12_back 106 = .ok (.goto (-20), 3) := by decide +kernel
theorem dX12_back_109 : decode cX12_back 109 = .ok (.iconst 0, 1) := by decide +kernel
theorem dX12_back_110 : decode cX12_back 110 = .ok (.istore_n 1, 1) := by decide +kernel
theorem dX12_back_111 : decode cX12_back 111 = .ok (.iload_n 1, 1) := by decide +kernel
theorem dX12_back_112 : decode cX12_back 112 = .ok (.aload_n 0, 1) := by decide +kernel
theorem dX12_back_113 : decode cX12_back 113 = .ok (.getfield 321, 3) := by decide +kernel
theorem dX12_back_116 : decode cX12_back 116 = .ok (.if_icmp .ge 21, 3) := by decide +kernel
theorem dX12_back_119 : decode cX12_back 119 = .ok (.aload_n 0, 1) := by decide +kernel
theorem dX12_back_120 : decode cX12_back 120 = .ok (.getfield 29, 3) := by decide +kernel
theorem dX12_back_123 : decode cX12_back 123 = .ok (.iload_n 1, 1) := by decide +kernel
theorem dX12_back_124 : decode cX12_back 124 = .ok (.aload_n 0, 1) := by decide +kernel
theorem dX12_back_125 : decode cX12_back 125 = .ok (.getfield 106, 3) := by decide +kernel
theorem dX12_back_128 : decode cX12_back 128 = .ok (.iload_n 1, 1) := by decide +kernel
theorem dX12_back_129 : decode cX12_back 129 = .ok (.iaload, 1) := by decide +kernel
theorem dX12_back_130 : decode cX12_back 130 = .ok (.iastore, 1) := by decide +kernel
theorem dX12_back_131 : decode cX12_back 131 = .ok (.iinc 1 1, 3) := by decide +kernel
theorem dX12_back_134 : decode cX12_back 134 = .ok (.goto (-23), 3) := by decide +kernel
theorem dX12_back_137 : decode cX12_back 137 = .ok (.aload_n 0, 1) := by decide +kernel
theorem dX12_back_138 : decode cX12_back 138 = .ok (.getfield 124, 3) := by decide +kernel
theorem dX12_back_141 : decode cX12_back 141 = .ok (.ireturn, 1) := by decide +kernel
theorem dX12_count_0 : decode cX12_count 0 = .ok (.iconst 0, 1) := by decide +kernel
theorem dX12_count_1 : decode cX12_count 1 = .ok (.istore_n 2, 1) := by decide +kernel
theorem dX12_count_2 : decode cX12_count 2 = .ok (.iload_n 1, 1) := by decide +kernel
theorem dX12_count_3 : decode cX12_count 3 = .ok (.tableswitch 148 0 7 #[45, 50, 55, 82, 109, 114, 119, 124], 45) := by decide +kernel
theorem dX12_count_48 : decode cX12_count 48 = .ok (.aload_n 0, 1) := by decide +kernel
theorem dX12_count_49 : decode cX12_count 49 = .ok (.getfield 124, 3) := by decide +kernel
theorem dX12_count_52 : decode cX12_count 52 = .ok (.ireturn, 1) := by decide +kernel
theorem dX12_count_53 : decode cX12_count 53 = .ok (.aload_n 0, 1) := by decide +kernel
theorem dX12_count_54 : decode cX12_count 54 = .ok (.getfield 7, 3) := by decide +kernel
theorem dX12_count_57 : decode cX12_count 57 = .ok (.ireturn, 1) := by decide +kernel
theorem dX12_count_58 : decode cX12_count 58 = .ok (.iconst 0, 1) := by decide +kernel
theorem dX12_count_59 : decode cX12_count 59 = .ok (.istore_n 3, 1) := by decide +kernel
theorem dX12_count_60 : decode cX12_count 60 = .ok (.iload_n 3, 1) := by decide +kernel
theorem dX12_count_61 : decode cX12_count 61 = .ok (.aload_n 0, 1) := by decide +kernel
theorem dX12_count_62 : decode cX12_count 62 = .ok (.getfield 7, 3) := by decide +kernel
theorem dX12_count_65 : decode cX12_count 65 = .ok (.if_icmp .ge 18, 3) := by decide +kernel
theorem dX12_count_68 : decode cX12_count 68 = .ok (.iload_n 2, 1) := by decide +kernel
theorem dX12_count_69 : decode cX12_count 69 = .ok (.aload_n 0, 1) := by decide +kernel
theorem dX12_count_70 : decode cX12_count 70 = .ok (.getfield 17, 3) := by decide +kernel
theorem dX12_count_73 : decode cX12_count 73 = .ok (.iload_n 3, 1) := by decide +kernel
theorem dX12_count_74 : decode cX12_count 74 = .ok (.iaload, 1) := by decide +kernel
theorem dX12_count_75 : decode cX12_count 75 = .ok (.iadd, 1) := by decide +kernel
theorem dX12_count_76 : decode cX12_count 76 = .ok (.istore_n 2, 1) := by decide +kernel
theorem dX12_count_77 : decode cX12_count 77 = .ok (.iinc 3 1, 3) := by decide +kernel
theorem dX12_count_80 : decode cX12_count 80 = .ok (.goto (-20), 3) := by decide +kernel
theorem dX12_count_83 : decode cX12_count 83 = .ok (.iload_n 2, 1) := by decide +kernel
theorem dX12_count_84 : decode cX12_count 84 = .ok (.ireturn, 1) := by decide +kernel
theorem dX12_count_85 : decode cX12_count 85 = .ok (.iconst 0, 1) := by decide +kernel
theorem dX12_count_86 : decode cX12_count 86 = .ok (.istore_n 3, 1) := by decide +kernel
theorem dX12_count_87 : decode cX12_count 87 = .ok (.iload_n 3, 1) := by decide +kernel
theorem dX12_count_88 : decode cX12_count 88 = .ok (.aload_n 0, 1) := by decide +kernel
theorem dX12_count_89 : decode cX12_count 89 = .ok (.getfield 7, 3) := by decide +kernel
theorem dX12_count_92 : decode cX12_count 92 = .ok (.if_icmp .ge 18, 3) := by decide +kernel
theorem dX12_count_95 : decode cX12_count 95 = .ok (.iload_n 2, 1) := by decide +kernel
theorem dX12_count_96 : decode cX12_count 96 = .ok (.aload_n 0, 1) := by decide +kernel
theorem dX12_count_97 : decode cX12_count 97 = .ok (.getfield 20, 3) := by decide +kernel
theorem dX12_count_100 : decode cX12_count 100 = .ok (.iload_n 3, 1) := by decide +kernel
theorem dX12_count_101 : decode cX12_count 101 = .ok (.iaload, 1) := by decide +kernel
theorem dX12_count_102 : decode cX12_count 102 = .ok (.iadd, 1) := by decide +kernel
theorem dX12_count_103 : decode cX12_count 103 = .ok (.istore_n 2, 1) := by decide +kernel
theorem dX12_count_104 : decode cX12_count 104 = .ok (.iinc 3 1, 3) := by decide +kernel
theorem dX12_count_107 : decode cX12_count 107 = .ok (.goto (-20), 3) := by decide +kernel
theorem dX12_count_110 : decode cX12_count 110 = .ok (.iload_n 2, 1) := by decide +kernel
theorem dX12_count_111 : decode cX12_count 111 = .ok (.ireturn, 1) := by decide +kernel
theorem dX12_count_112 : decode cX12_count 112 = .ok (.aload_n 0, 1) := by decide +kernel
theorem dX12_count_113 : decode cX12_count 113 = .ok (.getfield 45, 3) := by decide +kernel
theorem dX12_count_116 : decode cX12_count 116 = .ok (.ireturn, 1) := by decide +kernel
theorem dX12_count_117 : decode cX12_count 117 = .ok (.aload_n 0, 1) := by decide +kernel
theorem dX12_count_118 : decode cX12_count 118 = .ok (.getfield 150, 3) := by decide +kernel
theorem dX12_count_121 : decode cX12_count 121 = .ok (.ireturn, 1) := by decide +kernel
theorem dX12_count_122 : decode cX12_count 122 = .ok (.aload_n 0, 1) := by decide +kernel
theorem dX12_count_123 : decode cX12_count 123 = .ok (.getfield 226, 3) := by decide +kernel
theorem dX12_count_126 : decode cX12_count 126 = .ok (.ireturn, 1) := by decide +kernel
theorem dX12_count_127 : decode cX12_count 127 = .ok (.iconst 0, 1) := by decide +kernel
theorem dX12_count_128 : decode cX12_count 128 = .ok (.istore_n 3, 1) := by decide +kernel
theorem dX12_count_129 : decode cX12_count 129 = .ok (.iload_n 3, 1) := by decide +kernel
theorem dX12_count_130 : decode cX12_count 130 = .ok (.iconst 4, 1) := by decide +kernel
theorem dX12_count_131 : decode cX12_count 131 = .ok (.if_icmp .ge 18, 3) := by decide +kernel
theorem dX12_count_134 : decode cX12_count 134 = .ok (.iload_n 2, 1) := by decide +kernel
theorem dX12_count_135 : decode cX12_count 135 = .ok (.aload_n 0, 1) := by decide +kernel
theorem dX12_count_136 : decode cX12_count 136 = .ok (.getfield 23, 3) := by decide +kernel
theorem dX12_count_139 : decode cX12_count 139 = .ok (.iload_n 3, 1) := by decide +kernel
theorem dX12_count_140 : decode cX12_count 140 = .ok (.iaload, 1) := by decide +kernel
theorem dX12_count_141 : decode cX12_count 141 = .ok (.iadd, 1) := by decide +kernel
theorem dX12_count_142 : decode cX12_count 142 = .ok (.istore_n 2, 1) := by decide +kernel
theorem dX12_count_143 : decode cX12_count 143 = .ok (.iinc 3 1, 3) := by decide +kernel
theorem dX12_count_146 : decode cX12_count 146 = .ok (.goto (-17), 3) := by decide +kernel
theorem dX12_count_149 : decode cX12_count 149 = .ok (.iload_n 2, 1) := by decide +kernel
theorem dX12_count_150 : decode cX12_count 150 = .ok (.ireturn, 1) := by decide +kernel
theorem dX12_count_151 : decode cX12_count 151 = .ok (.bipush (-2), 2) := by decide +kernel
theorem dX12_count_153 : decode cX12_count 153 = .ok (.ireturn, 1) := by decide +kernel
theorem dX12_isSheet_0 : decode cX12_isSheet 0 = .ok (.iload_n 0, 1) := by decide +kernel
theorem dX12_isSheet_1 : decode cX12_isSheet 1 = .ok (.iconst 0, 1) := by decide +kernel
theorem dX12_isSheet_2 : decode cX12_isSheet 2 = .ok (.iconst 3, 1) := by decide +kernel
theorem dX12_isSheet_3 : decode cX12_isSheet 3 = .ok (.invokestatic 127, 3) := by decide +kernel
theorem dX12_isSheet_6 : decode cX12_isSheet 6 = .ok (.ireturn, 1) := by decide +kernel
theorem dX12_sheet_0 : decode cX12_sheet 0 = .ok (.iload_n 1, 1) := by decide +kernel
theorem dX12_sheet_1 : decode cX12_sheet 1 = .ok (.invokestatic 305, 3) := by decide +kernel
theorem dX12_sheet_4 : decode cX12_sheet 4 = .ok (.ifCond .eq 12, 3) := by decide +kernel
theorem dX12_sheet_7 : decode cX12_sheet 7 = .ok (.iload_n 2, 1) := by decide +kernel
theorem dX12_sheet_8 : decode cX12_sheet 8 = .ok (.iconst (-1), 1) := by decide +kernel
theorem dX12_sheet_9 : decode cX12_sheet 9 = .ok (.iconst 2, 1) := by decide +kernel
theorem dX12_sheet_10 : decode cX12_sheet 10 = .ok (.invokestatic 127, 3) := by decide +kernel
theorem dX12_sheet_13 : decode cX12_sheet 13 = .ok (.ifCond .ne 6, 3) := by decide +kernel
theorem dX12_sheet_16 : decode cX12_sheet 16 = .ok (.bipush (-2), 2) := by decide +kernel
theorem dX12_sheet_18 : decode cX12_sheet 18 = .ok (.ireturn, 1) := by decide +kernel
theorem dX12_sheet_19 : decode cX12_sheet 19 = .ok (.iload_n 2, 1) := by decide +kernel
theorem dX12_sheet_20 : decode cX12_sheet 20 = .ok (.iconst (-1), 1) := by decide +kernel
theorem dX12_sheet_21 : decode cX12_sheet 21 = .ok (.if_icmp .ne 12, 3) := by decide +kernel
theorem dX12_sheet_24 : decode cX12_sheet 24 = .ok (.aload_n 0, 1) := by decide +kernel
theorem dX12_sheet_25 : decode cX12_sheet 25 = .ok (.getfield 109, 3) := by decide +kernel
theorem dX12_sheet_28 : decode cX12_sheet 28 = .ok (.iload_n 1, 1) := by decide +kernel
theorem dX12_sheet_29 : decode cX12_sheet 29 = .ok (.iconst (-1), 1) := by decide +kernel
theorem dX12_sheet_30 : decode cX12_sheet 30 = .ok (.iastore, 1) := by decide +kernel
theorem dX12_sheet_31 : decode cX12_sheet 31 = .ok (.iconst 1, 1) := by decide +kernel
theorem dX12_sheet_32 : decode cX12_sheet 32 = .ok (.ireturn, 1) := by decide +kernel
theorem dX12_sheet_33 : decode cX12_sheet 33 = .ok (.iload_n 3, 1) := by decide +kernel
theorem dX12_sheet_34 : decode cX12_sheet 34 = .ok (.bipush 40, 2) := by decide +kernel
theorem dX12_sheet_36 : decode cX12_sheet 36 = .ok (.if_icmp .le 6, 3) := by decide +kernel
theorem dX12_sheet_39 : decode cX12_sheet 39 = .ok (.bipush (-2), 2) := by decide +kernel
theorem dX12_sheet_41 : decode cX12_sheet 41 = .ok (.ireturn, 1) := by decide +kernel
theorem dX12_sheet_42 : decode cX12_sheet 42 = .ok (.iload_n 3, 1) := by decide +kernel
theorem dX12_sheet_43 : decode cX12_sheet 43 = .ok (.ifCond .ge 6, 3) := by decide +kernel
theorem dX12_sheet_46 : decode cX12_sheet 46 = .ok (.bipush (-14), 2) := by decide +kernel
theorem dX12_sheet_48 : decode cX12_sheet 48 = .ok (.ireturn, 1) := by decide +kernel
theorem dX12_sheet_49 : decode cX12_sheet 49 = .ok (.aload_n 0, 1) := by decide +kernel
theorem dX12_sheet_50 : decode cX12_sheet 50 = .ok (.getfield 109, 3) := by decide +kernel
theorem dX12_sheet_53 : decode cX12_sheet 53 = .ok (.iload_n 1, 1) := by decide +kernel
theorem dX12_sheet_54 : decode cX12_sheet 54 = .ok (.iload_n 2, 1) := by decide +kernel
theorem dX12_sheet_55 : decode cX12_sheet 55 = .ok (.iastore, 1) := by decide +kernel
theorem dX12_sheet_56 : decode cX12_sheet 56 = .ok (.aload_n 0, 1) := by decide +kernel
theorem dX12_sheet_57 : decode cX12_sheet 57 = .ok (.getfield 112, 3) := by decide +kernel
theorem dX12_sheet_60 : decode cX12_sheet 60 = .ok (.iload_n 1, 1) := by decide +kernel
theorem dX12_sheet_61 : decode cX12_sheet 61 = .ok (.iload_n 3, 1) := by decide +kernel
theorem dX12_sheet_62 : decode cX12_sheet 62 = .ok (.iastore, 1) := by decide +kernel
theorem dX12_sheet_63 : decode cX12_sheet 63 = .ok (.iconst 0, 1) := by decide +kernel
theorem dX12_sheet_64 : decode cX12_sheet 64 = .ok (.istore 4, 2) := by decide +kernel
theorem dX12_sheet_66 : decode cX12_sheet 66 = .ok (.iload 4, 2) := by decide +kernel
theorem dX12_sheet_68 : decode cX12_sheet 68 = .ok (.iload_n 3, 1) := by decide +kernel
theorem dX12_sheet_69 : decode cX12_sheet 69 = .ok (.if_icmp .ge 22, 3) := by decide +kernel
theorem dX12_sheet_72 : decode cX12_sheet 72 = .ok (.aload_n 0, 1) := by decide +kernel
theorem dX12_sheet_73 : decode cX12_sheet 73 = .ok (.getfield 115, 3) := by decide +kernel
theorem dX12_sheet_76 : decode cX12_sheet 76 = .ok (.bipush 40, 2) := by decide +kernel
theorem dX12_sheet_78 : decode cX12_sheet 78 = .ok (.iload_n 1, 1) := by decide +kernel
theorem dX12_sheet_79 : decode cX12_sheet 79 = .ok (.imul, 1) := by decide +kernel
theorem dX12_sheet_80 : decode cX12_sheet 80 = .ok (.iload 4, 2) := by decide +kernel
theorem dX12_sheet_82 : decode cX12_sheet 82 = .ok (.iadd, 1) := by decide +kernel
theorem dX12_sheet_83 : decode cX12_sheet 83 = .ok (.iconst 0, 1) := by decide +kernel
theorem dX12_sheet_84 : decode cX12_sheet 84 = .ok (.iastore, 1) := by decide +kernel
theorem dX12_sheet_85 : decode cX12_sheet 85 = .ok (.iinc 4 1, 3) := by decide +kernel
theorem dX12_sheet_88 : decode cX12_sheet 88 = .ok (.goto (-22), 3) := by decide +kernel
theorem dX12_sheet_91 : decode cX12_sheet 91 = .ok (.iconst 1, 1) := by decide +kernel
theorem dX12_sheet_92 : decode cX12_sheet 92 = .ok (.ireturn, 1) := by decide +kernel
theorem dX12_cell_0 : decode cX12_cell 0 = .ok (.iload_n 1, 1) := by decide +kernel
theorem dX12_cell_1 : decode cX12_cell 1 = .ok (.invokestatic 305, 3) := by decide +kernel
theorem dX12_cell_4 : decode cX12_cell 4 = .ok (.ifCond .ne 6, 3) := by decide +kernel
theorem dX12_cell_7 : decode cX12_cell 7 = .ok (.bipush (-2), 2) := by decide +kernel
theorem dX12_cell_9 : decode cX12_cell 9 = .ok (.ireturn, 1) := by decide +kernel
theorem dX12_cell_10 : decode cX12_cell 10 = .ok (.aload_n 0, 1) := by decide +kernel
theorem dX12_cell_11 : decode cX12_cell 11 = .ok (.getfield 109, 3) := by decide +kernel
theorem dX12_cell_14 : decode cX12_cell 14 = .ok (.iload_n 1, 1) := by decide +kernel
theorem dX12_cell_15 : decode cX12_cell 15 = .ok (.iaload, 1) := by decide +kernel
theorem dX12_cell_16 : decode cX12_cell 16 = .ok (.ifCond .ge 6, 3) := by decide +kernel
theorem dX12_cell_19 : decode cX12_cell 19 = .ok (.bipush (-11), 2) := by decide +kernel
theorem dX12_cell_21 : decode cX12_cell 21 = .ok (.ireturn, 1) := by decide +kernel
theorem dX12_cell_22 : decode cX12_cell 22 = .ok (.iload_n 2, 1) := by decide +kernel
theorem dX12_cell_23 : decode cX12_cell 23 = .ok (.iconst 0, 1) := by decide +kernel
theorem dX12_cell_24 : decode cX12_cell 24 = .ok (.aload_n 0, 1) := by decide +kernel
theorem dX12_cell_25 : decode cX12_cell 25 = .ok (.getfield 112, 3) := by decide +kernel
theorem dX12_cell_28 : decode cX12_cell 28 = .ok (.iload_n 1, 1) := by decide +kernel
theorem dX12_cell_29 : decode cX12_cell 29 = .ok (.iaload, 1) := by decide +kernel
theorem dX12_cell_30 : decode cX12_cell 30 = .ok (.iconst 1, 1) := by decide +kernel
theorem dX12_cell_31 : decode cX12_cell 31 = .ok (.isub, 1) := by decide +kernel
theorem dX12_cell_32 : decode cX12_cell 32 = .ok (.invokestatic 127, 3) := by decide +kernel
theorem dX12_cell_35 : decode cX12_cell 35 = .ok (.ifCond .ne 6, 3) := by decide +kernel
theorem dX12_cell_38 : decode cX12_cell 38 = .ok (.bipush (-12), 2) := by decide +kernel
theorem dX12_cell_40 : decode cX12_cell 40 = .ok (.ireturn, 1) := by decide +kernel
theorem dX12_cell_41 : decode cX12_cell 41 = .ok (.aload_n 0, 1) := by decide +kernel
theorem dX12_cell_42 : decode cX12_cell 42 = .ok (.getfield 115, 3) := by decide +kernel
theorem dX12_cell_45 : decode cX12_cell 45 = .ok (.bipush 40, 2) := by decide +kernel
theorem dX12_cell_47 : decode cX12_cell 47 = .ok (.iload_n 1, 1) := by decide +kernel
theorem dX12_cell_48 : decode cX12_cell 48 = .ok (.imul, 1) := by decide +kernel
theorem dX12_cell_49 : decode cX12_cell 49 = .ok (.iload_n 2, 1) := by decide +kernel
theorem dX12_cell_50 : decode cX12_cell 50 = .ok (.iadd, 1) := by decide +kernel
theorem dX12_cell_51 : decode cX12_cell 51 = .ok (.aload_n 0, 1) := by decide +kernel
theorem dX12_cell_52 : decode cX12_cell 52 = .ok (.getfield 109, 3) := by decide +kernel
theorem dX12_cell_55 : decode cX12_cell 55 = .ok (.iload_n 1, 1) := by decide +kernel
theorem dX12_cell_56 : decode cX12_cell 56 = .ok (.iaload, 1) := by decide +kernel
theorem dX12_cell_57 : decode cX12_cell 57 = .ok (.ifCond .ne 8, 3) := by decide +kernel
theorem dX12_cell_60 : decode cX12_cell 60 = .ok (.iload_n 3, 1) := by decide +kernel
theorem dX12_cell_61 : decode cX12_cell 61 = .ok (.i2b, 1) := by decide +kernel
theorem dX12_cell_62 : decode cX12_cell 62 = .ok (.goto 19, 3) := by decide +kernel
theorem dX12_cell_65 : decode cX12_cell 65 = .ok (.aload_n 0, 1) := by decide +kernel
theorem dX12_cell_66 : decode cX12_cell 66 = .ok (.getfield 109, 3) := by decide +kernel
theorem dX12_cell_69 : decode cX12_cell 69 = .ok (.iload_n 1, 1) := by decide +kernel
theorem dX12_cell_70 : decode cX12_cell 70 = .ok (.iaload, 1) := by decide +kernel
theorem dX12_cell_71 : decode cX12_cell 71 = .ok (.iconst 1, 1) := by decide +kernel
theorem dX12_cell_72 : decode cX12_cell 72 = .ok (.if_icmp .ne 8, 3) := by decide +kernel
theorem dX12_cell_75 : decode cX12_cell 75 = .ok (.iload_n 3, 1) := by decide +kernel
theorem dX12_cell_76 : decode cX12_cell 76 = .ok (.i2s, 1) := by decide +kernel
theorem dX12_cell_77 : decode cX12_cell 77 = .ok (.goto 4, 3) := by decide +kernel
theorem dX12_cell_80 : decode cX12_cell 80 = .ok (.iload_n 3, 1) := by decide +kernel
theorem dX12_cell_81 : decode cX12_cell 81 = .ok (.iastore, 1) := by decide +kernel
theorem dX12_cell_82 : decode cX12_cell 82 = .ok (.iconst 1, 1) := by decide +kernel
theorem dX12_cell_83 : decode cX12_cell 83 = .ok (.ireturn, 1) := by decide +kernel
theorem dX12_copy_0 : decode cX12_copy 0 = .ok (.iload_n 1, 1) := by decide +kernel
theorem dX12_copy_1 : decode cX12_copy 1 = .ok (.invokestatic 305, 3) := by decide +kernel
theorem dX12_copy_4 : decode cX12_copy 4 = .ok (.ifCond .eq 10, 3) := by decide +kernel
theorem dX12_copy_7 : decode cX12_copy 7 = .ok (.iload_n 3, 1) := by decide +kernel
theorem dX12_copy_8 : decode cX12_copy 8 = .ok (.invokestatic 305, 3) := by decide +kernel
theorem dX12_copy_11 : decode cX12_copy 11 = .ok (.ifCond .ne 6, 3) := by decide +kernel
theorem dX12_copy_14 : decode cX12_copy 14 = .ok (.bipush (-2), 2) := by decide +kernel
theorem dX12_copy_16 : decode cX12_copy 16 = .ok (.ireturn, 1) := by decide +kernel
theorem dX12_copy_17 : decode cX12_copy 17 = .ok (.aload_n 0, 1) := by decide +kernel
theorem dX12_copy_18 : decode cX12_copy 18 = .ok (.getfield 109, 3) := by decide +kernel
theorem dX12_copy_21 : decode cX12_copy 21 = .ok (.iload_n 1, 1) := by decide +kernel
theorem dX12_copy_22 : decode cX12_copy 22 = .ok (.iaload, 1) := by decide +kernel
theorem dX12_copy_23 : decode cX12_copy 23 = .ok (.ifCond .lt 12, 3) := by decide +kernel
theorem dX12_copy_26 : decode cX12_copy 26 = .ok (.aload_n 0, 1) := by decide +kernel
theorem dX12_copy_27 : decode cX12_copy 27 = .ok (.getfield 109, 3) := by decide +kernel
theorem dX12_copy_30 : decode cX12_copy 30 = .ok (.iload_n 3, 1) := by decide +kernel
theorem dX12_copy_31 : decode cX12_copy 31 = .ok (.iaload, 1) := by decide +kernel
theorem dX12_copy_32 : decode cX12_copy 32 = .ok (.ifCond .ge 6, 3) := by decide +kernel
theorem dX12_copy_35 : decode cX12_copy 35 = .ok (.bipush (-11), 2) := by decide +kernel
theorem dX12_copy_37 : decode cX12_copy 37 = .ok (.ireturn, 1) := by decide +kernel
theorem dX12_copy_38 : decode cX12_copy 38 = .ok (.aload_n 0, 1) := by decide +kernel
theorem dX12_copy_39 : decode cX12_copy 39 = .ok (.getfield 109, 3) := by decide +kernel
theorem dX12_copy_42 : decode cX12_copy 42 = .ok (.iload_n 1, 1) := by decide +kernel
theorem dX12_copy_43 : decode cX12_copy 43 = .ok (.iaload, 1) := by decide +kernel
theorem dX12_copy_44 : decode cX12_copy 44 = .ok (.aload_n 0, 1) := by decide +kernel
theorem dX12_copy_45 : decode cX12_copy 45 = .ok (.getfield 109, 3) := by decide +kernel
theorem dX12_copy_48 : decode cX12_copy 48 = .ok (.iload_n 3, 1) := by decide +kernel
theorem dX12_copy_49 : decode cX12_copy 49 = .ok (.iaload, 1) := by decide +kernel
theorem dX12_copy_50 : decode cX12_copy 50 = .ok (.if_icmp .eq 6, 3) := by decide +kernel
theorem dX12_copy_53 : decode cX12_copy 53 = .ok (.bipush (-13), 2) := by decide +kernel
theorem dX12_copy_55 : decode cX12_copy 55 = .ok (.ireturn, 1) := by decide +kernel
theorem dX12_copy_56 : decode cX12_copy 56 = .ok (.iload 5, 2) := by decide +kernel
theorem dX12_copy_58 : decode cX12_copy 58 = .ok (.ifCond .lt 47, 3) := by decide +kernel
theorem dX12_copy_61 : decode cX12_copy 61 = .ok (.iload_n 2, 1) := by decide +kernel
theorem dX12_copy_62 : decode cX12_copy 62 = .ok (.ifCond .lt 43, 3) := by decide +kernel
theorem dX12_copy_65 : decode cX12_copy 65 = .ok (.iload 4, 2) := by decide +kernel
theorem dX12_copy_67 : decode cX12_copy 67 = .ok (.ifCond .lt 38, 3) := by decide +kernel
theorem dX12_copy_70 : decode cX12_copy 70 = .ok (.iload_n 2, 1) := by decide +kernel
theorem dX12_copy_71 : decode cX12_copy 71 = .ok (.i2l, 1) := by decide +kernel
theorem dX12_copy_72 : decode cX12_copy 72 = .ok (.iload 5, 2) := by decide +kernel
theorem dX12_copy_74 : decode cX12_copy 74 = .ok (.i2l, 1) := by decide +kernel
theorem dX12_copy_75 : decode cX12_copy 75 = .ok (.ladd, 1) := by decide +kernel
theorem dX12_copy_76 : decode cX12_copy 76 = .ok (.aload_n 0, 1) := by decide +kernel
theorem dX12_copy_77 : decode cX12_copy 77 = .ok (.getfield 112, 3) := by decide +kernel
theorem dX12_copy_80 : decode cX12_copy 80 = .ok (.iload_n 1, 1) := by decide +kernel
theorem dX12_copy_81 : decode cX12_copy 81 = .ok (.iaload, 1) := by decide +kernel
theorem dX12_copy_82 : decode cX12_copy 82 = .ok (.i2l, 1) := by decide +kernel
theorem dX12_copy_83 : decode cX12_copy 83 = .ok (.lcmp, 1) := by decide +kernel
theorem dX12_copy_84 : decode cX12_copy 84 = .ok (.ifCond .gt 21, 3) := by decide +kernel
theorem dX12_copy_87 : decode cX12_copy 87 = .ok (.iload 4, 2) := by decide +kernel
theorem dX12_copy_89 : decode cX12_copy 89 = .ok (.i2l, 1) := by decide +kernel
theorem dX12_copy_90 : decode cX12_copy 90 = .ok (.iload 5, 2) := by decide +kernel
theorem dX12_copy_92 : decode cX12_copy 92 = .ok (.i2l, 1) := by decide +kernel
theorem dX12_copy_93 : decode cX12_copy 93 = .ok (.ladd, 1) := by decide +kernel
theorem dX12_copy_94 : decode cX12_copy 94 = .ok (.aload_n 0, 1) := by decide +kernel
theorem dX12_copy_95 : decode cX12_copy 95 = .ok (.getfield 112, 3) := by decide +kernel
theorem dX12_copy_98 : decode cX12_copy 98 = .ok (.iload_n 3, 1) := by decide +kernel
theorem dX12_copy_99 : decode cX12_copy 99 = .ok (.iaload, 1) := by decide +kernel
theorem dX12_copy_100 : decode cX12_copy 100 = .ok (.i2l, 1) := by decide +kernel
theorem dX12_copy_101 : decode cX12_copy 101 = .ok (.lcmp, 1) := by decide +kernel
theorem dX12_copy_102 : decode cX12_copy 102 = .ok (.ifCond .le 6, 3) := by decide +kernel
theorem dX12_copy_105 : decode cX12_copy 105 = .ok (.bipush (-12), 2) := by decide +kernel
theorem dX12_copy_107 : decode cX12_copy 107 = .ok (.ireturn, 1) := by decide +kernel
theorem dX12_copy_108 : decode cX12_copy 108 = .ok (.iconst 0, 1) := by decide +kernel
theorem dX12_copy_109 : decode cX12_copy 109 = .ok (.istore 6, 2) := by decide +kernel
theorem dX12_copy_111 : decode cX12_copy 111 = .ok (.iload 6, 2) := by decide +kernel
theorem dX12_copy_113 : decode cX12_copy 113 = .ok (.iload 5, 2) := by decide +kernel
theorem dX12_copy_115 : decode cX12_copy 115 = .ok (.if_icmp .ge 30, 3) := by decide +kernel
theorem dX12_copy_118 : decode cX12_copy 118 = .ok (.aload_n 0, 1) := by decide +kernel
theorem dX12_copy_119 : decode cX12_copy 119 = .ok (.getfield 118, 3) := by decide +kernel
theorem dX12_copy_122 : decode cX12_copy 122 = .ok (.iload 6, 2) := by decide +kernel
theorem dX12_copy_124 : decode cX12_copy 124 = .ok (.aload_n 0, 1) := by decide +kernel
theorem dX12_copy_125 : decode cX12_copy 125 = .ok (.getfield 115, 3) := by decide +kernel
theorem dX12_copy_128 : decode cX12_copy 128 = .ok (.bipush 40, 2) := by decide +kernel
theorem dX12_copy_130 : decode cX12_copy 130 = .ok (.iload_n 1, 1) := by decide +kernel
theorem dX12_copy_131 : decode cX12_copy 131 = .ok (.imul, 1) := by decide +kernel
theorem dX12_copy_132 : decode cX12_copy 132 = .ok (.iload_n 2, 1) := by decide +kernel
theorem dX12_copy_133 : decode cX12_copy 133 = .ok (.iadd, 1) := by decide +kernel
theorem dX12_copy_134 : decode cX12_copy 134 = .ok (.iload 6, 2) := by decide +kernel
theorem dX12_copy_136 : decode cX12_copy 136 = .ok (.iadd, 1) := by decide +kernel
theorem dX12_copy_137 : decode cX12_copy 137 = .ok (.iaload, 1) := by decide +kernel
theorem dX12_copy_138 : decode cX12_copy 138 = .ok (.iastore, 1) := by decide +kernel
theorem dX12_copy_139 : decode cX12_copy 139 = .ok (.iinc 6 1, 3) := by decide +kernel
theorem dX12_copy_142 : decode cX12_copy 142 = .ok (.goto (-31), 3) := by decide +kernel
theorem dX12_copy_145 : decode cX12_copy 145 = .ok (.iconst 0, 1) := by decide +kernel
theorem dX12_copy_146 : decode cX12_copy 146 = .ok (.istore 6, 2) := by decide +kernel
theorem dX12_copy_148 : decode cX12_copy 148 = .ok (.iload 6, 2) := by decide +kernel
theorem dX12_copy_150 : decode cX12_copy 150 = .ok (.iload 5, 2) := by decide +kernel
theorem dX12_copy_152 : decode cX12_copy 152 = .ok (.if_icmp .ge 31, 3) := by decide +kernel
theorem dX12_copy_155 : decode cX12_copy 155 = .ok (.aload_n 0, 1) := by decide +kernel
theorem dX12_copy_156 : decode cX12_copy 156 = .ok (.getfield 115, 3) := by decide +kernel
theorem dX12_copy_159 : decode cX12_copy 159 = .ok (.bipush 40, 2) := by decide +kernel
theorem dX12_copy_161 : decode cX12_copy 161 = .ok (.iload_n 3, 1) := by decide +kernel
theorem dX12_copy_162 : decode cX12_copy 162 = .ok (.imul, 1) := by decide +kernel
theorem dX12_copy_163 : decode cX12_copy 163 = .ok (.iload 4, 2) := by decide +kernel
theorem dX12_copy_165 : decode cX12_copy 165 = .ok (.iadd, 1) := by decide +kernel
theorem dX12_copy_166 : decode cX12_copy 166 = .ok (.iload 6, 2) := by decide +kernel
theorem dX12_copy_168 : decode cX12_copy 168 = .ok (.iadd, 1) := by decide +kernel
theorem dX12_copy_169 : decode cX12_copy 169 = .ok (.aload_n 0, 1) := by decide +kernel
theorem dX12_copy_170 : decode cX12_copy 170 = .ok (.getfield 118, 3) := by decide +kernel
theorem dX12_copy_173 : decode cX12_copy 173 = .ok (.iload 6, 2) := by decide +kernel
theorem dX12_copy_175 : decode cX12_copy 175 = .ok (.iaload, 1) := by decide +kernel
theorem dX12_copy_176 : decode cX12_copy 176 = .ok (.iastore, 1) := by decide +kernel
theorem dX12_copy_177 : decode cX12_copy 177 = .ok (.iinc 6 1, 3) := by decide +kernel
theorem dX12_copy_180 : decode cX12_copy 180 = .ok (.goto (-32), 3) := by decide +kernel
theorem dX12_copy_183 : decode cX12_copy 183 = .ok (.iload 5, 2) := by decide +kernel
theorem dX12_copy_185 : decode cX12_copy 185 = .ok (.ireturn, 1) := by decide +kernel
theorem dX12_singers_0 : decode cX12_singers 0 = .ok (.iload_n 1, 1) := by decide +kernel
theorem dX12_singers_1 : decode cX12_singers 1 = .ok (.invokestatic 305, 3) := by decide +kernel
theorem dX12_singers_4 : decode cX12_singers 4 = .ok (.ifCond .eq 23, 3) := by decide +kernel
theorem dX12_singers_7 : decode cX12_singers 7 = .ok (.iload_n 2, 1) := by decide +kernel
theorem dX12_singers_8 : decode cX12_singers 8 = .ok (.iconst 0, 1) := by decide +kernel
theorem dX12_singers_9 : decode cX12_singers 9 = .ok (.iconst 2, 1) := by decide +kernel
theorem dX12_singers_10 : decode cX12_singers 10 = .ok (.invokestatic 127, 3) := by decide +kernel
theorem dX12_singers_13 : decode cX12_singers 13 = .ok (.ifCond .eq 14, 3) := by decide +kernel
theorem dX12_singers_16 : decode cX12_singers 16 = .ok (.iload 4, 2) := by decide +kernel
theorem dX12_singers_18 : decode cX12_singers 18 = .ok (.iconst 0, 1) := by decide +kernel
theorem dX12_singers_19 : decode cX12_singers 19 = .ok (.bipush 10, 2) := by decide +kernel
theorem dX12_singers_21 : decode cX12_singers 21 = .ok (.invokestatic 127, 3) := by decide +kernel
theorem dX12_singers_24 : decode cX12_singers 24 = .ok (.ifCond .ne 6, 3) := by decide +kernel
theorem dX12_singers_27 : decode cX12_singers 27 = .ok (.bipush (-2), 2) := by decide +kernel
theorem dX12_singers_29 : decode cX12_singers 29 = .ok (.ireturn, 1) := by decide +kernel
theorem dX12_singers_30 : decode cX12_singers 30 = .ok (.aload_n 0, 1) := by decide +kernel
theorem dX12_singers_31 : decode cX12_singers 31 = .ok (.getfield 109, 3) := by decide +kernel
theorem dX12_singers_34 : decode cX12_singers 34 = .ok (.iload_n 1, 1) := by decide +kernel
theorem dX12_singers_35 : decode cX12_singers 35 = .ok (.iaload, 1) := by decide +kernel
theorem dX12_singers_36 : decode cX12_singers 36 = .ok (.ifCond .lt 16, 3) := by decide +kernel
theorem dX12_singers_39 : decode cX12_singers 39 = .ok (.aload_n 0, 1) := by decide +kernel
theorem dX12_singers_40 : decode cX12_singers 40 = .ok (.getfield 109, 3) := by decide +kernel
theorem dX12_singers_43 : decode cX12_singers 43 = .ok (.iload_n 1, 1) := by decide +kernel
theorem dX12_singers_44 : decode cX12_singers 44 = .ok (.iaload, 1) := by decide +kernel
theorem dX12_singers_45 : decode cX12_singers 45 = .ok (.iload_n 2, 1) := by decide +kernel
theorem dX12_singers_46 : decode cX12_singers 46 = .ok (.if_icmp .eq 6, 3) := by decide +kernel
theorem dX12_singers_49 : decode cX12_singers 49 = .ok (.bipush (-13), 2) := by decide +kernel
theorem dX12_singers_51 : decode cX12_singers 51 = .ok (.ireturn, 1) := by decide +kernel
theorem dX12_singers_52 : decode cX12_singers 52 = .ok (.aload_n 0, 1) := by decide +kernel
theorem dX12_singers_53 : decode cX12_singers 53 = .ok (.getfield 109, 3) := by decide +kernel
theorem dX12_singers_56 : decode cX12_singers 56 = .ok (.iload_n 1, 1) := by decide +kernel
theorem dX12_singers_57 : decode cX12_singers 57 = .ok (.iaload, 1) := by decide +kernel
theorem dX12_singers_58 : decode cX12_singers 58 = .ok (.ifCond .ge 6, 3) := by decide +kernel
theorem dX12_singers_61 : decode cX12_singers 61 = .ok (.bipush (-11), 2) := by decide +kernel
theorem dX12_singers_63 : decode cX12_singers 63 = .ok (.ireturn, 1) := by decide +kernel
theorem dX12_singers_64 : decode cX12_singers 64 = .ok (.iconst 0, 1) := by decide +kernel
theorem dX12_singers_65 : decode cX12_singers 65 = .ok (.istore 5, 2) := by decide +kernel
theorem dX12_singers_67 : decode cX12_singers 67 = .ok (.iconst 0, 1) := by decide +kernel
theorem dX12_singers_68 : decode cX12_singers 68 = .ok (.istore 6, 2) := by decide +kernel
theorem dX12_singers_70 : decode cX12_singers 70 = .ok (.iload 6, 2) := by decide +kernel
theorem dX12_singers_72 : decode cX12_singers 72 = .ok (.iload 4, 2) := by decide +kernel
theorem dX12_singers_74 : decode cX12_singers 74 = .ok (.if_icmp .ge 91, 3) := by decide +kernel
theorem dX12_singers_77 : decode cX12_singers 77 = .ok (.iload_n 3, 1) := by decide +kernel
theorem dX12_singers_78 : decode cX12_singers 78 = .ok (.i2l, 1) := by decide +kernel
theorem dX12_singers_79 : decode cX12_singers 79 = .ok (.iconst 3, 1) := by decide +kernel
theorem dX12_singers_80 : decode cX12_singers 80 = .ok (.iload 6, 2) := by decide +kernel
theorem dX12_singers_82 : decode cX12_singers 82 = .ok (.imul, 1) := by decide +kernel
theorem dX12_singers_83 : decode cX12_singers 83 = .ok (.i2l, 1) := by decide +kernel
theorem dX12_singers_84 : decode cX12_singers 84 = .ok (.ladd, 1) := by decide +kernel
theorem dX12_singers_85 : decode cX12_singers 85 = .ok (.lstore 7, 2) := by decide +kernel
theorem dX12_singers_87 : decode cX12_singers 87 = .ok (.lload 7, 2) := by decide +kernel
theorem dX12_singers_89 : decode cX12_singers 89 = .ok (.lconst 0, 1) := by decide +kernel
theorem dX12_singers_90 : decode cX12_singers 90 = .ok (.lcmp, 1) := by decide +kernel
theorem dX12_singers_91 : decode cX12_singers 91 = .ok (.ifCond .lt 20, 3) := by decide +kernel
theorem dX12_singers_94 : decode cX12_singers 94 = .ok (.lload 7, 2) := by decide +kernel
theorem dX12_singers_96 : decode cX12_singers 96 = .ok (.ldc2_w 324, 3) := by decide +kernel
theorem dX12_singers_99 : decode cX12_singers 99 = .ok (.ladd, 1) := by decide +kernel
theorem dX12_singers_100 : decode cX12_singers 100 = .ok (.aload_n 0, 1) := by decide +kernel
theorem dX12_singers_101 : decode cX12_singers 101 = .ok (.getfield 112, 3) := by decide +kernel
theorem dX12_singers_104 : decode cX12_singers 104 = .ok (.iload_n 1, 1) := by decide +kernel
theorem dX12_singers_105 : decode cX12_singers 105 = .ok (.iaload, 1) := by decide +kernel
theorem dX12_singers_106 : decode cX12_singers 106 = .ok (.i2l, 1) := by decide +kernel
theorem dX12_singers_107 : decode cX12_singers 107 = .ok (.lcmp, 1) := by decide +kernel
theorem dX12_singers_108 : decode cX12_singers 108 = .ok (.ifCond .lt 6, 3) := by decide +kernel
theorem dX12_singers_111 : decode cX12_singers 111 = .ok (.bipush (-12), 2) := by decide +kernel
theorem dX12_singers_113 : decode cX12_singers 113 = .ok (.ireturn, 1) := by decide +kernel
theorem dX12_singers_114 : decode cX12_singers 114 = .ok (.bipush 40, 2) := by decide +kernel
theorem dX12_singers_116 : decode cX12_singers 116 = .ok (.iload_n 1, 1) := by decide +kernel
theorem dX12_singers_117 : decode cX12_singers 117 = .ok (.imul, 1) := by decide +kernel
theorem dX12_singers_118 : decode cX12_singers 118 = .ok (.lload 7, 2) := by decide +kernel
theorem dX12_singers_120 : decode cX12_singers 120 = .ok (.l2i, 1) := by decide +kernel
theorem dX12_singers_121 : decode cX12_singers 121 = .ok (.iadd, 1) := by decide +kernel
theorem dX12_singers_122 : decode cX12_singers 122 = .ok (.istore 9, 2) := by decide +kernel
theorem dX12_singers_124 : decode cX12_singers 124 = .ok (.aload_n 0, 1) := by decide +kernel
theorem dX12_singers_125 : decode cX12_singers 125 = .ok (.aload_n 0, 1) := by decide +kernel
theorem dX12_singers_126 : decode cX12_singers 126 = .ok (.getfield 115, 3) := by decide +kernel
theorem dX12_singers_129 : decode cX12_singers 129 = .ok (.iload 9, 2) := by decide +kernel
theorem dX12_singers_131 : decode cX12_singers 131 = .ok (.iaload, 1) := by decide +kernel
theorem dX12_singers_132 : decode cX12_singers 132 = .ok (.aload_n 0, 1) := by decide +kernel
theorem dX12_singers_133 : decode cX12_singers 133 = .ok (.getfield 115, 3) := by decide +kernel
theorem dX12_singers_136 : decode cX12_singers 136 = .ok (.iload 9, 2) := by decide +kernel
theorem dX12_singers_138 : decode cX12_singers 138 = .ok (.iconst 1, 1) := by decide +kernel
theorem dX12_singers_139 : decode cX12_singers 139 = .ok (.iadd, 1) := by decide +kernel
theorem dX12_singers_140 : decode cX12_singers 140 = .ok (.iaload, 1) := by decide +kernel
theorem dX12_singers_141 : decode cX12_singers 141 = .ok (.aload_n 0, 1) := by decide +kernel
theorem dX12_singers_142 : decode cX12_singers 142 = .ok (.getfield 115, 3) := by decide +kernel
theorem dX12_singers_145 : decode cX12_singers 145 = .ok (.iload 9, 2) := by decide +kernel
theorem dX12_singers_147 : decode cX12_singers 147 = .ok (.iconst 2, 1) := by decide +kernel
theorem dX12_singers_148 : decode cX12_singers 148 = .ok (.iadd, 1) := by decide +kernel
theorem dX12_singers_149 : decode cX12_singers 149 = .ok (.iaload, 1) := by decide +kernel
theorem dX12_singers_150 : decode cX12_singers 150 = .ok (.invokevirtual 326, 3) := by decide +kernel
theorem dX12_singers_153 : decode cX12_singers 153 = .ok (.ifCond .lt 6, 3) := by decide +kernel
theorem dX12_singers_156 : decode cX12_singers 156 = .ok (.iinc 5 1, 3) := by decide +kernel
theorem dX12_singers_159 : decode cX12_singers 159 = .ok (.iinc 6 1, 3) := by decide +kernel
theorem dX12_singers_162 : decode cX12_singers 162 = .ok (.goto (-92), 3) := by decide +kernel
theorem dX12_singers_165 : decode cX12_singers 165 = .ok (.iload 5, 2) := by decide +kernel
theorem dX12_singers_167 : decode cX12_singers 167 = .ok (.ireturn, 1) := by decide +kernel
theorem dX12_isUnder_0 : decode cX12_isUnder 0 = .ok (.iload_n 1, 1) := by decide +kernel
theorem dX12_isUnder_1 : decode cX12_isUnder 1 = .ok (.ifCond .eq 28, 3) := by decide +kernel
theorem dX12_isUnder_4 : decode cX12_isUnder 4 = .ok (.iload_n 0, 1) := by decide +kernel
theorem dX12_isUnder_5 : decode cX12_isUnder 5 = .ok (.iload_n 1, 1) := by decide +kernel
theorem dX12_isUnder_6 : decode cX12_isUnder 6 = .ok (.if_icmp .eq 23, 3) := by decide +kernel
theorem dX12_isUnder_9 : decode cX12_isUnder 9 = .ok (.iload_n 1, 1) := by decide +kernel
theorem dX12_isUnder_10 : decode cX12_isUnder 10 = .ok (.iconst 2, 1) := by decide +kernel
theorem dX12_isUnder_11 : decode cX12_isUnder 11 = .ok (.if_icmp .ne 8, 3) := by decide +kernel
theorem dX12_isUnder_14 : decode cX12_isUnder 14 = .ok (.iload_n 0, 1) := by decide +kernel
theorem dX12_isUnder_15 : decode cX12_isUnder 15 = .ok (.iconst 3, 1) := by decide +kernel
theorem dX12_isUnder_16 : decode cX12_isUnder 16 = .ok (.if_icmp .eq 13, 3) := by decide +kernel
theorem dX12_isUnder_19 : decode cX12_isUnder 19 = .ok (.iload_n 1, 1) := by decide +kernel
theorem dX12_isUnder_20 : decode cX12_isUnder 20 = .ok (.iconst 1, 1) := by decide +kernel
theorem dX12_isUnder_21 : decode cX12_isUnder 21 = .ok (.if_icmp .ne 12, 3) := by decide +kernel
theorem dX12_isUnder_24 : decode cX12_isUnder 24 = .ok (.iload_n 0, 1) := by decide +kernel
theorem dX12_isUnder_25 : decode cX12_isUnder 25 = .ok (.iconst 4, 1) := by decide +kernel
theorem dX12_isUnder_26 : decode cX12_isUnder 26 = .ok (.if_icmp .ne 7, 3) := by decide +kernel
theorem dX12_isUnder_29 : decode cX12_isUnder 29 = .ok (.iconst 1, 1) := by decide +kernel
theorem dX12_isUnder_30 : decode cX12_isUnder 30 = .ok (.goto 4, 3) := by decide +kernel
theorem dX12_isUnder_33 : decode cX12_isUnder 33 = .ok (.iconst 0, 1) := by decide +kernel
theorem dX12_isUnder_34 : decode cX12_isUnder 34 = .ok (.ireturn, 1) := by decide +kernel
theorem dX12_taken_0 : decode cX12_taken 0 = .ok (.iload_n 2, 1) := by decide +kernel
theorem dX12_taken_1 : decode cX12_taken 1 = .ok (.iconst 0, 1) := by decide +kernel
theorem dX12_taken_2 : decode cX12_taken 2 = .ok (.iconst 5, 1) := by decide +kernel
theorem dX12_taken_3 : decode cX12_taken 3 = .ok (.invokestatic 127, 3) := by decide +kernel
theorem dX12_taken_6 : decode cX12_taken 6 = .ok (.ifCond .ne 6, 3) := by decide +kernel
theorem dX12_taken_9 : decode cX12_taken 9 = .ok (.bipush (-2), 2) := by decide +kernel
theorem dX12_taken_11 : decode cX12_taken 11 = .ok (.ireturn, 1) := by decide +kernel
theorem dX12_taken_12 : decode cX12_taken 12 = .ok (.aload_n 0, 1) := by decide +kernel
theorem dX12_taken_13 : decode cX12_taken 13 = .ok (.iload_n 1, 1) := by decide +kernel
theorem dX12_taken_14 : decode cX12_taken 14 = .ok (.invokevirtual 134, 3) := by decide +kernel
theorem dX12_taken_17 : decode cX12_taken 17 = .ok (.ifCond .ne 6, 3) := by decide +kernel
theorem dX12_taken_20 : decode cX12_taken 20 = .ok (.bipush (-11), 2) := by decide +kernel
theorem dX12_taken_22 : decode cX12_taken 22 = .ok (.ireturn, 1) := by decide +kernel
theorem dX12_taken_23 : decode cX12_taken 23 = .ok (.aload_n 0, 1) := by decide +kernel
theorem dX12_taken_24 : decode cX12_taken 24 = .ok (.getfield 26, 3) := by decide +kernel
theorem dX12_taken_27 : decode cX12_taken 27 = .ok (.iload_n 1, 1) := by decide +kernel
theorem dX12_taken_28 : decode cX12_taken 28 = .ok (.iaload, 1) := by decide +kernel
theorem dX12_taken_29 : decode cX12_taken 29 = .ok (.iload_n 2, 1) := by decide +kernel
theorem dX12_taken_30 : decode cX12_taken 30 = .ok (.invokestatic 329, 3) := by decide +kernel
theorem dX12_taken_33 : decode cX12_taken 33 = .ok (.ifCond .eq 12, 3) := by decide +kernel
theorem dX12_taken_36 : decode cX12_taken 36 = .ok (.aload_n 0, 1) := by decide +kernel
theorem dX12_taken_37 : decode cX12_taken 37 = .ok (.getfield 35, 3) := by decide +kernel
theorem dX12_taken_40 : decode cX12_taken 40 = .ok (.iload_n 1, 1) := by decide +kernel
theorem dX12_taken_41 : decode cX12_taken 41 = .ok (.iaload, 1) := by decide +kernel
theorem dX12_taken_42 : decode cX12_taken 42 = .ok (.goto 5, 3) := by decide +kernel
theorem dX12_taken_45 : decode cX12_taken 45 = .ok (.bipush (-13), 2) := by decide +kernel
theorem dX12_taken_47 : decode cX12_taken 47 = .ok (.ireturn, 1) := by decide +kernel
theorem dJ11_isValidCodePoint_9a6ad_0 : decode cJ11_isValidCodePoint_9a6ad 0 = .ok (.iload_n 0, 1) := by decide +kernel
theorem dJ11_isValidCodePoint_9a6ad_1 : decode cJ11_isValidCodePoint_9a6ad 1 = .ok (.bipush 16, 2) := by decide +kernel
theorem dJ11_isValidCodePoint_9a6ad_3 : decode cJ11_isValidCodePoint_9a6ad 3 = .ok (.iushr, 1) := by decide +kernel
theorem dJ11_isValidCodePoint_9a6ad_4 : decode cJ11_isValidCodePoint_9a6ad 4 = .ok (.istore_n 1, 1) := by decide +kernel
theorem dJ11_isValidCodePoint_9a6ad_5 : decode cJ11_isValidCodePoint_9a6ad 5 = .ok (.iload_n 1, 1) := by decide +kernel
theorem dJ11_isValidCodePoint_9a6ad_6 : decode cJ11_isValidCodePoint_9a6ad 6 = .ok (.bipush 17, 2) := by decide +kernel
theorem dJ11_isValidCodePoint_9a6ad_8 : decode cJ11_isValidCodePoint_9a6ad 8 = .ok (.if_icmp .ge 7, 3) := by decide +kernel
theorem dJ11_isValidCodePoint_9a6ad_11 : decode cJ11_isValidCodePoint_9a6ad 11 = .ok (.iconst 1, 1) := by decide +kernel
theorem dJ11_isValidCodePoint_9a6ad_12 : decode cJ11_isValidCodePoint_9a6ad 12 = .ok (.goto 4, 3) := by decide +kernel
theorem dJ11_isValidCodePoint_9a6ad_15 : decode cJ11_isValidCodePoint_9a6ad 15 = .ok (.iconst 0, 1) := by decide +kernel
theorem dJ11_isValidCodePoint_9a6ad_16 : decode cJ11_isValidCodePoint_9a6ad 16 = .ok (.ireturn, 1) := by decide +kernel
theorem dJ11_highSurrogate_5068e_0 : decode cJ11_highSurrogate_5068e 0 = .ok (.iload_n 0, 1) := by decide +kernel
theorem dJ11_highSurrogate_5068e_1 : decode cJ11_highSurrogate_5068e 1 = .ok (.bipush 10, 2) := by decide +kernel
theorem dJ11_highSurrogate_5068e_3 : decode cJ11_highSurrogate_5068e 3 = .ok (.iushr, 1) := by decide +kernel
theorem dJ11_highSurrogate_5068e_4 : decode cJ11_highSurrogate_5068e 4 = .ok (.ldc 110, 2) := by decide +kernel
theorem dJ11_highSurrogate_5068e_6 : decode cJ11_highSurrogate_5068e 6 = .ok (.iadd, 1) := by decide +kernel
theorem dJ11_highSurrogate_5068e_7 : decode cJ11_highSurrogate_5068e 7 = .ok (.i2c, 1) := by decide +kernel
theorem dJ11_highSurrogate_5068e_8 : decode cJ11_highSurrogate_5068e 8 = .ok (.ireturn, 1) := by decide +kernel
theorem dJ11_lowSurrogate_5068e_0 : decode cJ11_lowSurrogate_5068e 0 = .ok (.iload_n 0, 1) := by decide +kernel
theorem dJ11_lowSurrogate_5068e_1 : decode cJ11_lowSurrogate_5068e 1 = .ok (.sipush 1023, 3) := by decide +kernel
theorem dJ11_lowSurrogate_5068e_4 : decode cJ11_lowSurrogate_5068e 4 = .ok (.iand, 1) := by decide +kernel
theorem dJ11_lowSurrogate_5068e_5 : decode cJ11_lowSurrogate_5068e 5 = .ok (.ldc 76, 2) := by decide +kernel
theorem dJ11_lowSurrogate_5068e_7 : decode cJ11_lowSurrogate_5068e 7 = .ok (.iadd, 1) := by decide +kernel
theorem dJ11_lowSurrogate_5068e_8 : decode cJ11_lowSurrogate_5068e 8 = .ok (.i2c, 1) := by decide +kernel
theorem dJ11_lowSurrogate_5068e_9 : decode cJ11_lowSurrogate_5068e 9 = .ok (.ireturn, 1) := by decide +kernel
theorem dJ6_bitCount_0f7a4_0 : decode cJ6_bitCount_0f7a4 0 = .ok (.iload_n 0, 1) := by decide +kernel
theorem dJ6_bitCount_0f7a4_1 : decode cJ6_bitCount_0f7a4 1 = .ok (.iload_n 0, 1) := by decide +kernel
theorem dJ6_bitCount_0f7a4_2 : decode cJ6_bitCount_0f7a4 2 = .ok (.iconst 1, 1) := by decide +kernel
theorem dJ6_bitCount_0f7a4_3 : decode cJ6_bitCount_0f7a4 3 = .ok (.iushr, 1) := by decide +kernel
theorem dJ6_bitCount_0f7a4_4 : decode cJ6_bitCount_0f7a4 4 = .ok (.ldc_w 265, 3) := by decide +kernel
theorem dJ6_bitCount_0f7a4_7 : decode cJ6_bitCount_0f7a4 7 = .ok (.iand, 1) := by decide +kernel
theorem dJ6_bitCount_0f7a4_8 : decode cJ6_bitCount_0f7a4 8 = .ok (.isub, 1) := by decide +kernel
theorem dJ6_bitCount_0f7a4_9 : decode cJ6_bitCount_0f7a4 9 = .ok (.istore_n 0, 1) := by decide +kernel
theorem dJ6_bitCount_0f7a4_10 : decode cJ6_bitCount_0f7a4 10 = .ok (.iload_n 0, 1) := by decide +kernel
theorem dJ6_bitCount_0f7a4_11 : decode cJ6_bitCount_0f7a4 11 = .ok (.ldc_w 266, 3) := by decide +kernel
theorem dJ6_bitCount_0f7a4_14 : decode cJ6_bitCount_0f7a4 14 = .ok (.iand, 1) := by decide +kernel
theorem dJ6_bitCount_0f7a4_15 : decode cJ6_bitCount_0f7a4 15 = .ok (.iload_n 0, 1) := by decide +kernel
theorem dJ6_bitCount_0f7a4_16 : decode cJ6_bitCount_0f7a4 16 = .ok (.iconst 2, 1) := by decide +kernel
theorem dJ6_bitCount_0f7a4_17 : decode cJ6_bitCount_0f7a4 17 = .ok (.iushr, 1) := by decide +kernel
theorem dJ6_bitCount_0f7a4_18 : decode cJ6_bitCount_0f7a4 18 = .ok (.ldc_w 266, 3) := by decide +kernel
theorem dJ6_bitCount_0f7a4_21 : decode cJ6_bitCount_0f7a4 21 = .ok (.iand, 1) := by decide +kernel
theorem dJ6_bitCount_0f7a4_22 : decode cJ6_bitCount_0f7a4 22 = .ok (.iadd, 1) := by decide +kernel
theorem dJ6_bitCount_0f7a4_23 : decode cJ6_bitCount_0f7a4 23 = .ok (.istore_n 0, 1) := by decide +kernel
theorem dJ6_bitCount_0f7a4_24 : decode cJ6_bitCount_0f7a4 24 = .ok (.iload_n 0, 1) := by decide +kernel
theorem dJ6_bitCount_0f7a4_25 : decode cJ6_bitCount_0f7a4 25 = .ok (.iload_n 0, 1) := by decide +kernel
theorem dJ6_bitCount_0f7a4_26 : decode cJ6_bitCount_0f7a4 26 = .ok (.iconst 4, 1) := by decide +kernel
theorem dJ6_bitCount_0f7a4_27 : decode cJ6_bitCount_0f7a4 27 = .ok (.iushr, 1) := by decide +kernel
theorem dJ6_bitCount_0f7a4_28 : decode cJ6_bitCount_0f7a4 28 = .ok (.iadd, 1) := by decide +kernel
theorem dJ6_bitCount_0f7a4_29 : decode cJ6_bitCount_0f7a4 29 = .ok (.ldc_w 267, 3) := by decide +kernel
theorem dJ6_bitCount_0f7a4_32 : decode cJ6_bitCount_0f7a4 32 = .ok (.iand, 1) := by decide +kernel
theorem dJ6_bitCount_0f7a4_33 : decode cJ6_bitCount_0f7a4 33 = .ok (.istore_n 0, 1) := by decide +kernel
theorem dJ6_bitCount_0f7a4_34 : decode cJ6_bitCount_0f7a4 34 = .ok (.iload_n 0, 1) := by decide +kernel
theorem dJ6_bitCount_0f7a4_35 : decode cJ6_bitCount_0f7a4 35 = .ok (.iload_n 0, 1) := by decide +kernel
theorem dJ6_bitCount_0f7a4_36 : decode cJ6_bitCount_0f7a4 36 = .ok (.bipush 8, 2) := by decide +kernel
theorem dJ6_bitCount_0f7a4_38 : decode cJ6_bitCount_0f7a4 38 = .ok (.iushr, 1) := by decide +kernel
theorem dJ6_bitCount_0f7a4_39 : decode cJ6_bitCount_0f7a4 39 = .ok (.iadd, 1) := by decide +kernel
theorem dJ6_bitCount_0f7a4_40 : decode cJ6_bitCount_0f7a4 40 = .ok (.istore_n 0, 1) := by decide +kernel
theorem dJ6_bitCount_0f7a4_41 : decode cJ6_bitCount_0f7a4 41 = .ok (.iload_n 0, 1) := by decide +kernel
theorem dJ6_bitCount_0f7a4_42 : decode cJ6_bitCount_0f7a4 42 = .ok (.iload_n 0, 1) := by decide +kernel
theorem dJ6_bitCount_0f7a4_43 : decode cJ6_bitCount_0f7a4 43 = .ok (.bipush 16, 2) := by decide +kernel
theorem dJ6_bitCount_0f7a4_45 : decode cJ6_bitCount_0f7a4 45 = .ok (.iushr, 1) := by decide +kernel
theorem dJ6_bitCount_0f7a4_46 : decode cJ6_bitCount_0f7a4 46 = .ok (.iadd, 1) := by decide +kernel
theorem dJ6_bitCount_0f7a4_47 : decode cJ6_bitCount_0f7a4 47 = .ok (.istore_n 0, 1) := by decide +kernel
theorem dJ6_bitCount_0f7a4_48 : decode cJ6_bitCount_0f7a4 48 = .ok (.iload_n 0, 1) := by decide +kernel
theorem dJ6_bitCount_0f7a4_49 : decode cJ6_bitCount_0f7a4 49 = .ok (.bipush 63, 2) := by decide +kernel
theorem dJ6_bitCount_0f7a4_51 : decode cJ6_bitCount_0f7a4 51 = .ok (.iand, 1) := by decide +kernel
theorem dJ6_bitCount_0f7a4_52 : decode cJ6_bitCount_0f7a4 52 = .ok (.ireturn, 1) := by decide +kernel
theorem dJ9_max_7cf53_0 : decode cJ9_max_7cf53 0 = .ok (.iload_n 0, 1) := by decide +kernel
theorem dJ9_max_7cf53_1 : decode cJ9_max_7cf53 1 = .ok (.iload_n 1, 1) := by decide +kernel
theorem dJ9_max_7cf53_2 : decode cJ9_max_7cf53 2 = .ok (.if_icmp .lt 7, 3) := by decide +kernel
theorem dJ9_max_7cf53_5 : decode cJ9_max_7cf53 5 = .ok (.iload_n 0, 1) := by decide +kernel
theorem dJ9_max_7cf53_6 : decode cJ9_max_7cf53 6 = .ok (.goto 4, 3) := by decide +kernel
theorem dJ9_max_7cf53_9 : decode cJ9_max_7cf53 9 = .ok (.iload_n 1, 1) := by decide +kernel
theorem dJ9_max_7cf53_10 : decode cJ9_max_7cf53 10 = .ok (.ireturn, 1) := by decide +kernel
theorem dJ9_min_7cf53_0 : decode cJ9_min_7cf53 0 = .ok (.iload_n 0, 1) := by decide +kernel
theorem dJ9_min_7cf53_1 : decode cJ9_min_7cf53 1 = .ok (.iload_n 1, 1) := by decide +kernel
theorem dJ9_min_7cf53_2 : decode cJ9_min_7cf53 2 = .ok (.if_icmp .gt 7, 3) := by decide +kernel
theorem dJ9_min_7cf53_5 : decode cJ9_min_7cf53 5 = .ok (.iload_n 0, 1) := by decide +kernel
theorem dJ9_min_7cf53_6 : decode cJ9_min_7cf53 6 = .ok (.goto 4, 3) := by decide +kernel
theorem dJ9_min_7cf53_9 : decode cJ9_min_7cf53 9 = .ok (.iload_n 1, 1) := by decide +kernel
theorem dJ9_min_7cf53_10 : decode cJ9_min_7cf53 10 = .ok (.ireturn, 1) := by decide +kernel
theorem dJ0_length_8abf5_0 : decode cJ0_length_8abf5 0 = .ok (.aload_n 0, 1) := by decide +kernel
theorem dJ0_length_8abf5_1 : decode cJ0_length_8abf5 1 = .ok (.getfield 9, 3) := by decide +kernel
theorem dJ0_length_8abf5_4 : decode cJ0_length_8abf5 4 = .ok (.arraylength, 1) := by decide +kernel
theorem dJ0_length_8abf5_5 : decode cJ0_length_8abf5 5 = .ok (.aload_n 0, 1) := by decide +kernel
theorem dJ0_length_8abf5_6 : decode cJ0_length_8abf5 6 = .ok (.invokevirtual 335, 3) := by decide +kernel
theorem dJ0_length_8abf5_9 : decode cJ0_length_8abf5 9 = .ok (.ishr, 1) := by decide +kernel
theorem dJ0_length_8abf5_10 : decode cJ0_length_8abf5 10 = .ok (.ireturn, 1) := by decide +kernel
theorem dJ0_charAt_5068e_0 : decode cJ0_charAt_5068e 0 = .ok (.aload_n 0, 1) := by decide +kernel
theorem dJ0_charAt_5068e_1 : decode cJ0_charAt_5068e 1 = .ok (.invokevirtual 492, 3) := by decide +kernel
theorem dJ0_charAt_5068e_4 : decode cJ0_charAt_5068e 4 = .ok (.ifCond .eq 12, 3) := by decide +kernel
theorem dJ0_charAt_5068e_7 : decode cJ0_charAt_5068e 7 = .ok (.aload_n 0, 1) := by decide +kernel
theorem dJ0_charAt_5068e_8 : decode cJ0_charAt_5068e 8 = .ok (.getfield 9, 3) := by decide +kernel
theorem dJ0_charAt_5068e_11 : decode cJ0_charAt_5068e 11 = .ok (.iload_n 1, 1) := by decide +kernel
theorem dJ0_charAt_5068e_12 : decode cJ0_charAt_5068e 12 = .ok (.invokestatic 495, 3) := by decide +kernel
theorem dJ0_charAt_5068e_15 : decode cJ0_charAt_5068e 15 = .ok (.ireturn, 1) := by decide +kernel
theorem dJ0_charAt_5068e_16 : decode cJ0_charAt_5068e 16 = .ok (.aload_n 0, 1) := by decide +kernel
theorem dJ0_charAt_5068e_17 : decode cJ0_charAt_5068e 17 = .ok (.getfield 9, 3) := by decide +kernel
theorem dJ0_charAt_5068e_20 : decode cJ0_charAt_5068e 20 = .ok (.iload_n 1, 1) := by decide +kernel
theorem dJ0_charAt_5068e_21 : decode cJ0_charAt_5068e 21 = .ok (.invokestatic 498, 3) := by decide +kernel
theorem dJ0_charAt_5068e_24 : decode cJ0_charAt_5068e 24 = .ok (.ireturn, 1) := by decide +kernel
theorem dJ0_indexOf_0f7a4_0 : decode cJ0_indexOf_0f7a4 0 = .ok (.aload_n 0, 1) := by decide +kernel
theorem dJ0_indexOf_0f7a4_1 : decode cJ0_indexOf_0f7a4 1 = .ok (.iload_n 1, 1) := by decide +kernel
theorem dJ0_indexOf_0f7a4_2 : decode cJ0_indexOf_0f7a4 2 = .ok (.iconst 0, 1) := by decide +kernel
theorem dJ0_indexOf_0f7a4_3 : decode cJ0_indexOf_0f7a4 3 = .ok (.invokevirtual 633, 3) := by decide +kernel
theorem dJ0_indexOf_0f7a4_6 : decode cJ0_indexOf_0f7a4 6 = .ok (.ireturn, 1) := by decide +kernel
theorem dJ0_indexOf_7cf53_0 : decode cJ0_indexOf_7cf53 0 = .ok (.aload_n 0, 1) := by decide +kernel
theorem dJ0_indexOf_7cf53_1 : decode cJ0_indexOf_7cf53 1 = .ok (.invokevirtual 492, 3) := by decide +kernel
theorem dJ0_indexOf_7cf53_4 : decode cJ0_indexOf_7cf53 4 = .ok (.ifCond .eq 19, 3) := by decide +kernel
theorem dJ0_indexOf_7cf53_7 : decode cJ0_indexOf_7cf53 7 = .ok (.aload_n 0, 1) := by decide +kernel
theorem dJ0_indexOf_7cf53_8 : decode cJ0_indexOf_7cf53 8 = .ok (.getfield 9, 3) := by decide +kernel
theorem dJ0_indexOf_7cf53_11 : decode cJ0_indexOf_7cf53 11 = .ok (.iload_n 1, 1) := by decide +kernel
theorem dJ0_indexOf_7cf53_12 : decode cJ0_indexOf_7cf53 12 = .ok (.iload_n 2, 1) := by decide +kernel
theorem dJ0_indexOf_7cf53_13 : decode cJ0_indexOf_7cf53 13 = .ok (.aload_n 0, 1) := by decide +kernel
theorem dJ0_indexOf_7cf53_14 : decode cJ0_indexOf_7cf53 14 = .ok (.invokevirtual 505, 3) := by decide +kernel
theorem dJ0_indexOf_7cf53_17 : decode cJ0_indexOf_7cf53 17 = .ok (.invokestatic 637, 3) := by decide +kernel
theorem dJ0_indexOf_7cf53_20 : decode cJ0_indexOf_7cf53 20 = .ok (.goto 16, 3) := by decide +kernel
theorem dJ0_indexOf_7cf53_23 : decode cJ0_indexOf_7cf53 23 = .ok (.aload_n 0, 1) := by decide +kernel
theorem dJ0_indexOf_7cf53_24 : decode cJ0_indexOf_7cf53 24 = .ok (.getfield 9, 3) := by decide +kernel
theorem dJ0_indexOf_7cf53_27 : decode cJ0_indexOf_7cf53 27 = .ok (.iload_n 1, 1) := by decide +kernel
theorem dJ0_indexOf_7cf53_28 : decode cJ0_indexOf_7cf53 28 = .ok (.iload_n 2, 1) := by decide +kernel
theorem dJ0_indexOf_7cf53_29 : decode cJ0_indexOf_7cf53 29 = .ok (.aload_n 0, 1) := by decide +kernel
theorem dJ0_indexOf_7cf53_30 : decode cJ0_indexOf_7cf53 30 = .ok (.invokevirtual 505, 3) := by decide +kernel
theorem dJ0_indexOf_7cf53_33 : decode cJ0_indexOf_7cf53 33 = .ok (.invokestatic 640, 3) := by decide +kernel
theorem dJ0_indexOf_7cf53_36 : decode cJ0_indexOf_7cf53 36 = .ok (.ireturn, 1) := by decide +kernel
theorem dJ0_coder_7d493_0 : decode cJ0_coder_7d493 0 = .ok (.getstatic 38, 3) := by decide +kernel
theorem dJ0_coder_7d493_3 : decode cJ0_coder_7d493 3 = .ok (.ifCond .eq 10, 3) := by decide +kernel
theorem dJ0_coder_7d493_6 : decode cJ0_coder_7d493 6 = .ok (.aload_n 0, 1) := by decide +kernel
theorem dJ0_coder_7d493_7 : decode cJ0_coder_7d493 7 = .ok (.getfield 15, 3) := by decide +kernel
theorem dJ0_coder_7d493_10 : decode cJ0_coder_7d493 10 = .ok (.goto 4, 3) := by decide +kernel
theorem dJ0_coder_7d493_13 : decode cJ0_coder_7d493 13 = .ok (.iconst 1, 1) := by decide +kernel
theorem dJ0_coder_7d493_14 : decode cJ0_coder_7d493 14 = .ok (.ireturn, 1) := by decide +kernel
theorem dJ0_isLatin1_aae02_0 : decode cJ0_isLatin1_aae02 0 = .ok (.getstatic 38, 3) := by decide +kernel
theorem dJ0_isLatin1_aae02_3 : decode cJ0_isLatin1_aae02 3 = .ok (.ifCond .eq 14, 3) := by decide +kernel
theorem dJ0_isLatin1_aae02_6 : decode cJ0_isLatin1_aae02 6 = .ok (.aload_n 0, 1) := by decide +kernel
theorem dJ0_isLatin1_aae02_7 : decode cJ0_isLatin1_aae02 7 = .ok (.getfield 15, 3) := by decide +kernel
theorem dJ0_isLatin1_aae02_10 : decode cJ0_isLatin1_aae02 10 = .ok (.ifCond .ne 7, 3) := by decide +kernel
theorem dJ0_isLatin1_aae02_13 : decode cJ0_isLatin1_aae02 13 = .ok (.iconst 1, 1) := by decide +kernel
theorem dJ0_isLatin1_aae02_14 : decode cJ0_isLatin1_aae02 14 = .ok (.goto 4, 3) := by decide +kernel
theorem dJ0_isLatin1_aae02_17 : decode cJ0_isLatin1_aae02 17 = .ok (.iconst 0, 1) := by decide +kernel
theorem dJ0_isLatin1_aae02_18 : decode cJ0_isLatin1_aae02 18 = .ok (.ireturn, 1) := by decide +kernel
theorem dJ0_checkIndex_df160_0 : decode cJ0_checkIndex_df160 0 = .ok (.iload_n 0, 1) := by decide +kernel
theorem dJ0_checkIndex_df160_1 : decode cJ0_checkIndex_df160 1 = .ok (.iload_n 1, 1) := by decide +kernel
theorem dJ0_checkIndex_df160_2 : decode cJ0_checkIndex_df160 2 = .ok (.getstatic 1053, 3) := by decide +kernel
theorem dJ0_checkIndex_df160_5 : decode cJ0_checkIndex_df160 5 = .ok (.invokestatic 1059, 3) := by decide +kernel
theorem dJ0_checkIndex_df160_8 : decode cJ0_checkIndex_df160 8 = .ok (.pop, 1) := by decide +kernel
theorem dJ0_checkIndex_df160_9 : decode cJ0_checkIndex_df160 9 = .ok (.return_, 1) := by decide +kernel
theorem dJ0_checkBoundsBeginEnd_23922_0 : decode cJ0_checkBoundsBeginEnd_23922 0 = .ok (.iload_n 0, 1) := by decide +kernel
theorem dJ0_checkBoundsBeginEnd_23922_1 : decode cJ0_checkBoundsBeginEnd_23922 1 = .ok (.iload_n 1, 1) := by decide +kernel
theorem dJ0_checkBoundsBeginEnd_23922_2 : decode cJ0_checkBoundsBeginEnd_23922 2 = .ok (.iload_n 2, 1) := by decide +kernel
theorem dJ0_checkBoundsBeginEnd_23922_3 : decode cJ0_checkBoundsBeginEnd_23922 3 = .ok (.getstatic 1053, 3) := by decide +kernel
theorem dJ0_checkBoundsBeginEnd_23922_6 : decode cJ0_checkBoundsBeginEnd_23922 6 = .ok (.invokestatic 1062, 3) := by decide +kernel
theorem dJ0_checkBoundsBeginEnd_23922_9 : decode cJ0_checkBoundsBeginEnd_23922 9 = .ok (.pop, 1) := by decide +kernel
theorem dJ0_checkBoundsBeginEnd_23922_10 : decode cJ0_checkBoundsBeginEnd_23922 10 = .ok (.return_, 1) := by decide +kernel
theorem dJ1_charAt_3b067_0 : decode cJ1_charAt_3b067 0 = .ok (.iload_n 1, 1) := by decide +kernel
theorem dJ1_charAt_3b067_1 : decode cJ1_charAt_3b067 1 = .ok (.aload_n 0, 1) := by decide +kernel
theorem dJ1_charAt_3b067_2 : decode cJ1_charAt_3b067 2 = .ok (.arraylength, 1) := by decide +kernel
theorem dJ1_charAt_3b067_3 : decode cJ1_charAt_3b067 3 = .ok (.invokestatic 9, 3) := by decide +kernel
theorem dJ1_charAt_3b067_6 : decode cJ1_charAt_3b067 6 = .ok (.aload_n 0, 1) := by decide +kernel
theorem dJ1_charAt_3b067_7 : decode cJ1_charAt_3b067 7 = .ok (.iload_n 1, 1) := by decide +kernel
theorem dJ1_charAt_3b067_8 : decode cJ1_charAt_3b067 8 = .ok (.baload, 1) := by decide +kernel
theorem dJ1_charAt_3b067_9 : decode cJ1_charAt_3b067 9 = .ok (.sipush 255, 3) := by decide +kernel
theorem dJ1_charAt_3b067_12 : decode cJ1_charAt_3b067 12 = .ok (.iand, 1) := by decide +kernel
theorem dJ1_charAt_3b067_13 : decode cJ1_charAt_3b067 13 = .ok (.i2c, 1) := by decide +kernel
theorem dJ1_charAt_3b067_14 : decode cJ1_charAt_3b067 14 = .ok (.ireturn, 1) := by decide +kernel
theorem dJ1_canEncode_9a6ad_0 : decode cJ1_canEncode_9a6ad 0 = .ok (.iload_n 0, 1) := by decide +kernel
theorem dJ1_canEncode_9a6ad_1 : decode cJ1_canEncode_9a6ad 1 = .ok (.ifCond .lt 14, 3) := by decide +kernel
theorem dJ1_canEncode_9a6ad_4 : decode cJ1_canEncode_9a6ad 4 = .ok (.iload_n 0, 1) := by decide +kernel
theorem dJ1_canEncode_9a6ad_5 : decode cJ1_canEncode_9a6ad 5 = .ok (.sipush 255, 3) := by decide +kernel
theorem dJ1_canEncode_9a6ad_8 : decode cJ1_canEncode_9a6ad 8 = .ok (.if_icmp .gt 7, 3) := by decide +kernel
theorem dJ1_canEncode_9a6ad_11 : decode cJ1_canEncode_9a6ad 11 = .ok (.iconst 1, 1) := by decide +kernel
theorem dJ1_canEncode_9a6ad_12 : decode cJ1_canEncode_9a6ad 12 = .ok (.goto 4, 3) := by decide +kernel
theorem dJ1_canEncode_9a6ad_15 : decode cJ1_canEncode_9a6ad 15 = .ok (.iconst 0, 1) := by decide +kernel
theorem dJ1_canEncode_9a6ad_16 : decode cJ1_canEncode_9a6ad 16 = .ok (.ireturn, 1) := by decide +kernel
theorem dJ1_indexOf_4cfef_0 : decode cJ1_indexOf_4cfef 0 = .ok (.iload_n 1, 1) := by decide +kernel
theorem dJ1_indexOf_4cfef_1 : decode cJ1_indexOf_4cfef 1 = .ok (.invokestatic 88, 3) := by decide +kernel
theorem dJ1_indexOf_4cfef_4 : decode cJ1_indexOf_4cfef 4 = .ok (.ifCond .ne 5, 3) := by decide +kernel
theorem dJ1_indexOf_4cfef_7 : decode cJ1_indexOf_4cfef 7 = .ok (.iconst (-1), 1) := by decide +kernel
theorem dJ1_indexOf_4cfef_8 : decode cJ1_indexOf_4cfef 8 = .ok (.ireturn, 1) := by decide +kernel
theorem dJ1_indexOf_4cfef_9 : decode cJ1_indexOf_4cfef 9 = .ok (.iload_n 2, 1) := by decide +kernel
theorem dJ1_indexOf_4cfef_10 : decode cJ1_indexOf_4cfef 10 = .ok (.iconst 0, 1) := by decide +kernel
theorem dJ1_indexOf_4cfef_11 : decode cJ1_indexOf_4cfef 11 = .ok (.invokestatic 92, 3) := by decide +kernel
theorem dJ1_indexOf_4cfef_14 : decode cJ1_indexOf_4cfef 14 = .ok (.istore_n 2, 1) := by decide +kernel
theorem dJ1_indexOf_4cfef_15 : decode cJ1_indexOf_4cfef 15 = .ok (.iload_n 3, 1) := by decide +kernel
theorem dJ1_indexOf_4cfef_16 : decode cJ1_indexOf_4cfef 16 = .ok (.aload_n 0, 1) := by decide +kernel
theorem dJ1_indexOf_4cfef_17 : decode cJ1_indexOf_4cfef 17 = .ok (.arraylength, 1) := by decide +kernel
theorem dJ1_indexOf_4cfef_18 : decode cJ1_indexOf_4cfef 18 = .ok (.invokestatic 38, 3) := by decide +kernel
theorem dJ1_indexOf_4cfef_21 : decode cJ1_indexOf_4cfef 21 = .ok (.istore_n 3, 1) := by decide +kernel
theorem dJ1_indexOf_4cfef_22 : decode cJ1_indexOf_4cfef 22 = .ok (.iload_n 2, 1) := by decide +kernel
theorem dJ1_indexOf_4cfef_23 : decode cJ1_indexOf_4cfef 23 = .ok (.iload_n 3, 1) := by decide +kernel
theorem dJ1_indexOf_4cfef_24 : decode cJ1_indexOf_4cfef 24 = .ok (.if_icmp .lt 5, 3) := by decide +kernel
theorem dJ1_indexOf_4cfef_27 : decode cJ1_indexOf_4cfef 27 = .ok (.iconst (-1), 1) := by decide +kernel
theorem dJ1_indexOf_4cfef_28 : decode cJ1_indexOf_4cfef 28 = .ok (.ireturn, 1) := by decide +kernel
theorem dJ1_indexOf_4cfef_29 : decode cJ1_indexOf_4cfef 29 = .ok (.aload_n 0, 1) := by decide +kernel
theorem dJ1_indexOf_4cfef_30 : decode cJ1_indexOf_4cfef 30 = .ok (.iload_n 1, 1) := by decide +kernel
theorem dJ1_indexOf_4cfef_31 : decode cJ1_indexOf_4cfef 31 = .ok (.iload_n 2, 1) := by decide +kernel
theorem dJ1_indexOf_4cfef_32 : decode cJ1_indexOf_4cfef 32 = .ok (.iload_n 3, 1) := by decide +kernel
theorem dJ1_indexOf_4cfef_33 : decode cJ1_indexOf_4cfef 33 = .ok (.invokestatic 95, 3) := by decide +kernel
theorem dJ1_indexOf_4cfef_36 : decode cJ1_indexOf_4cfef 36 = .ok (.ireturn, 1) := by decide +kernel
theorem dJ1_indexOfChar_4cfef_0 : decode cJ1_indexOfChar_4cfef 0 = .ok (.iload_n 1, 1) := by decide +kernel
theorem dJ1_indexOfChar_4cfef_1 : decode cJ1_indexOfChar_4cfef 1 = .ok (.i2b, 1) := by decide +kernel
theorem dJ1_indexOfChar_4cfef_2 : decode cJ1_indexOfChar_4cfef 2 = .ok (.istore 4, 2) := by decide +kernel
theorem dJ1_indexOfChar_4cfef_4 : decode cJ1_indexOfChar_4cfef 4 = .ok (.iload_n 2, 1) := by decide +kernel
theorem dJ1_indexOfChar_4cfef_5 : decode cJ1_indexOfChar_4cfef 5 = .ok (.istore 5, 2) := by decide +kernel
theorem dJ1_indexOfChar_4cfef_7 : decode cJ1_indexOfChar_4cfef 7 = .ok (.iload 5, 2) := by decide +kernel
theorem dJ1_indexOfChar_4cfef_9 : decode cJ1_indexOfChar_4cfef 9 = .ok (.iload_n 3, 1) := by decide +kernel
theorem dJ1_indexOfChar_4cfef_10 : decode cJ1_indexOfChar_4cfef 10 = .ok (.if_icmp .ge 21, 3) := by decide +kernel
theorem dJ1_indexOfChar_4cfef_13 : decode cJ1_indexOfChar_4cfef 13 = .ok (.aload_n 0, 1) := by decide +kernel
theorem dJ1_indexOfChar_4cfef_14 : decode cJ1_indexOfChar_4cfef 14 = .ok (.iload 5, 2) := by decide +kernel
theorem dJ1_indexOfChar_4cfef_16 : decode cJ1_indexOfChar_4cfef 16 = .ok (.baload, 1) := by decide +kernel
theorem dJ1_indexOfChar_4cfef_17 : decode cJ1_indexOfChar_4cfef 17 = .ok (.iload 4, 2) := by decide +kernel
theorem dJ1_indexOfChar_4cfef_19 : decode cJ1_indexOfChar_4cfef 19 = .ok (.if_icmp .ne 6, 3) := by decide +kernel
theorem dJ1_indexOfChar_4cfef_22 : decode cJ1_indexOfChar_4cfef 22 = .ok (.iload 5, 2) := by decide +kernel
theorem dJ1_indexOfChar_4cfef_24 : decode cJ1_indexOfChar_4cfef 24 = .ok (.ireturn, 1) := by decide +kernel
theorem dJ1_indexOfChar_4cfef_25 : decode cJ1_indexOfChar_4cfef 25 = .ok (.iinc 5 1, 3) := by decide +kernel
theorem dJ1_indexOfChar_4cfef_28 : decode cJ1_indexOfChar_4cfef 28 = .ok (.goto (-21), 3) := by decide +kernel
theorem dJ1_indexOfChar_4cfef_31 : decode cJ1_indexOfChar_4cfef 31 = .ok (.iconst (-1), 1) := by decide +kernel
theorem dJ1_indexOfChar_4cfef_32 : decode cJ1_indexOfChar_4cfef 32 = .ok (.ireturn, 1) := by decide +kernel
theorem dJ2_getChar_3b067_0 : decode cJ2_getChar_3b067 0 = .ok (.getstatic 44, 3) := by decide +kernel
theorem dJ2_getChar_3b067_3 : decode cJ2_getChar_3b067 3 = .ok (.ifCond .ne 25, 3) := by decide +kernel
theorem dJ2_getChar_3b067_6 : decode cJ2_getChar_3b067 6 = .ok (.iload_n 1, 1) := by decide +kernel
theorem dJ2_getChar_3b067_7 : decode cJ2_getChar_3b067 7 = .ok (.ifCond .lt 11, 3) := by decide +kernel
theorem dJ2_getChar_3b067_10 : decode cJ2_getChar_3b067 10 = .ok (.iload_n 1, 1) := by decide +kernel
theorem dJ2_getChar_3b067_11 : decode cJ2_getChar_3b067 11 = .ok (.aload_n 0, 1) := by decide +kernel
theorem dJ2_getChar_3b067_12 : decode cJ2_getChar_3b067 12 = .ok (.invokestatic 48, 3) := by decide +kernel
theorem dJ2_getChar_3b067_15 : decode cJ2_getChar_3b067 15 = .ok (.if_icmp .lt 13, 3) := by decide +kernel
theorem dJ2_getChar_3b067_18 : decode cJ2_getChar_3b067 18 = .ok (.new 52, 3) := by decide +kernel
theorem dJ2_getChar_3b067_21 : decode cJ2_getChar_3b067 21 = .ok (.dup, 1) := by decide +kernel
theorem dJ2_getChar_3b067_22 : decode cJ2_getChar_3b067 22 = .ok (.ldc 54, 2) := by decide +kernel
theorem dJ2_getChar_3b067_24 : decode cJ2_getChar_3b067 24 = .ok (.invokespecial 56, 3) := by decide +kernel
theorem dJ2_getChar_3b067_27 : decode cJ2_getChar_3b067 27 = .ok (.athrow, 1) := by decide +kernel
theorem dJ2_getChar_3b067_28 : decode cJ2_getChar_3b067 28 = .ok (.iload_n 1, 1) := by decide +kernel
theorem dJ2_getChar_3b067_29 : decode cJ2_getChar_3b067 29 = .ok (.iconst 1, 1) := by decide +kernel
theorem dJ2_getChar_3b067_30 : decode cJ2_getChar_3b067 30 = .ok (.ishl, 1) := by decide +kernel
theorem dJ2_getChar_3b067_31 : decode cJ2_getChar_3b067 31 = .ok (.istore_n 1, 1) := by decide +kernel
theorem dJ2_getChar_3b067_32 : decode cJ2_getChar_3b067 32 = .ok (.aload_n 0, 1) := by decide +kernel
theorem dJ2_getChar_3b067_33 : decode cJ2_getChar_3b067 33 = .ok (.iload_n 1, 1) := by decide +kernel
theorem dJ2_getChar_3b067_34 : decode cJ2_getChar_3b067 34 = .ok (.iinc 1 1, 3) := by decide +kernel
theorem dJ2_getChar_3b067_37 : decode cJ2_getChar_3b067 37 = .ok (.baload, 1) := by decide +kernel
theorem dJ2_getChar_3b067_38 : decode cJ2_getChar_3b067 38 = .ok (.sipush 255, 3) := by decide +kernel
theorem dJ2_getChar_3b067_41 : decode cJ2_getChar_3b067 41 = .ok (.iand, 1) := by decide +kernel
theorem dJ2_getChar_3b067_42 : decode cJ2_getChar_3b067 42 = .ok (.getstatic 59, 3) := by decide +kernel
theorem dJ2_getChar_3b067_45 : decode cJ2_getChar_3b067 45 = .ok (.ishl, 1) := by decide +kernel
theorem dJ2_getChar_3b067_46 : decode cJ2_getChar_3b067 46 = .ok (.aload_n 0, 1) := by decide +kernel
theorem dJ2_getChar_3b067_47 : decode cJ2_getChar_3b067 47 = .ok (.iload_n 1, 1) := by decide +kernel
theorem dJ2_getChar_3b067_48 : decode cJ2_getChar_3b067 48 = .ok (.baload, 1) := by decide +kernel
theorem dJ2_getChar_3b067_49 : decode cJ2_getChar_3b067 49 = .ok (.sipush 255, 3) := by decide +kernel
theorem dJ2_getChar_3b067_52 : decode cJ2_getChar_3b067 52 = .ok (.iand, 1) := by decide +kernel
theorem dJ2_getChar_3b067_53 : decode cJ2_getChar_3b067 53 = .ok (.getstatic 63, 3) := by decide +kernel
theorem dJ2_getChar_3b067_56 : decode cJ2_getChar_3b067 56 = .ok (.ishl, 1) := by decide +kernel
end
section
theorem dJ2_getChar_3b067_57 : decode cJ2_getChar_3b067 57 = .ok (.ior, 1) := by decide +kernel
theorem dJ2_getChar_3b067_58 : decode cJ2_getChar_3b067 58 = .ok (.i2c, 1) := by decide +kernel
theorem dJ2_getChar_3b067_59 : decode cJ2_getChar_3b067 59 = .ok (.ireturn, 1) := by decide +kernel
theorem dJ2_length_9d52b_0 : decode cJ2_length_9d52b 0 = .ok (.aload_n 0, 1) := by decide +kernel
theorem dJ2_length_9d52b_1 : decode cJ2_length_9d52b 1 = .ok (.arraylength, 1) := by decide +kernel
theorem dJ2_length_9d52b_2 : decode cJ2_length_9d52b 2 = .ok (.iconst 1, 1) := by decide +kernel
theorem dJ2_length_9d52b_3 : decode cJ2_length_9d52b 3 = .ok (.ishr, 1) := by decide +kernel
theorem dJ2_length_9d52b_4 : decode cJ2_length_9d52b 4 = .ok (.ireturn, 1) := by decide +kernel
theorem dJ2_indexOf_4cfef_0 : decode cJ2_indexOf_4cfef 0 = .ok (.iload_n 2, 1) := by decide +kernel
theorem dJ2_indexOf_4cfef_1 : decode cJ2_indexOf_4cfef 1 = .ok (.iconst 0, 1) := by decide +kernel
theorem dJ2_indexOf_4cfef_2 : decode cJ2_indexOf_4cfef 2 = .ok (.invokestatic 224, 3) := by decide +kernel
theorem dJ2_indexOf_4cfef_5 : decode cJ2_indexOf_4cfef 5 = .ok (.istore_n 2, 1) := by decide +kernel
theorem dJ2_indexOf_4cfef_6 : decode cJ2_indexOf_4cfef 6 = .ok (.iload_n 3, 1) := by decide +kernel
theorem dJ2_indexOf_4cfef_7 : decode cJ2_indexOf_4cfef 7 = .ok (.aload_n 0, 1) := by decide +kernel
theorem dJ2_indexOf_4cfef_8 : decode cJ2_indexOf_4cfef 8 = .ok (.arraylength, 1) := by decide +kernel
theorem dJ2_indexOf_4cfef_9 : decode cJ2_indexOf_4cfef 9 = .ok (.iconst 1, 1) := by decide +kernel
theorem dJ2_indexOf_4cfef_10 : decode cJ2_indexOf_4cfef 10 = .ok (.ishr, 1) := by decide +kernel
theorem dJ2_indexOf_4cfef_11 : decode cJ2_indexOf_4cfef 11 = .ok (.invokestatic 183, 3) := by decide +kernel
theorem dJ2_indexOf_4cfef_14 : decode cJ2_indexOf_4cfef 14 = .ok (.istore_n 3, 1) := by decide +kernel
theorem dJ2_indexOf_4cfef_15 : decode cJ2_indexOf_4cfef 15 = .ok (.iload_n 2, 1) := by decide +kernel
theorem dJ2_indexOf_4cfef_16 : decode cJ2_indexOf_4cfef 16 = .ok (.iload_n 3, 1) := by decide +kernel
theorem dJ2_indexOf_4cfef_17 : decode cJ2_indexOf_4cfef 17 = .ok (.if_icmp .lt 5, 3) := by decide +kernel
theorem dJ2_indexOf_4cfef_20 : decode cJ2_indexOf_4cfef 20 = .ok (.iconst (-1), 1) := by decide +kernel
theorem dJ2_indexOf_4cfef_21 : decode cJ2_indexOf_4cfef 21 = .ok (.ireturn, 1) := by decide +kernel
theorem dJ2_indexOf_4cfef_22 : decode cJ2_indexOf_4cfef 22 = .ok (.iload_n 1, 1) := by decide +kernel
theorem dJ2_indexOf_4cfef_23 : decode cJ2_indexOf_4cfef 23 = .ok (.ldc 227, 2) := by decide +kernel
theorem dJ2_indexOf_4cfef_25 : decode cJ2_indexOf_4cfef 25 = .ok (.if_icmp .ge 11, 3) := by decide +kernel
theorem dJ2_indexOf_4cfef_28 : decode cJ2_indexOf_4cfef 28 = .ok (.aload_n 0, 1) := by decide +kernel
theorem dJ2_indexOf_4cfef_29 : decode cJ2_indexOf_4cfef 29 = .ok (.iload_n 1, 1) := by decide +kernel
theorem dJ2_indexOf_4cfef_30 : decode cJ2_indexOf_4cfef 30 = .ok (.iload_n 2, 1) := by decide +kernel
theorem dJ2_indexOf_4cfef_31 : decode cJ2_indexOf_4cfef 31 = .ok (.iload_n 3, 1) := by decide +kernel
theorem dJ2_indexOf_4cfef_32 : decode cJ2_indexOf_4cfef 32 = .ok (.invokestatic 228, 3) := by decide +kernel
theorem dJ2_indexOf_4cfef_35 : decode cJ2_indexOf_4cfef 35 = .ok (.ireturn, 1) := by decide +kernel
theorem dJ2_indexOf_4cfef_36 : decode cJ2_indexOf_4cfef 36 = .ok (.aload_n 0, 1) := by decide +kernel
theorem dJ2_indexOf_4cfef_37 : decode cJ2_indexOf_4cfef 37 = .ok (.iload_n 1, 1) := by decide +kernel
theorem dJ2_indexOf_4cfef_38 : decode cJ2_indexOf_4cfef 38 = .ok (.iload_n 2, 1) := by decide +kernel
theorem dJ2_indexOf_4cfef_39 : decode cJ2_indexOf_4cfef 39 = .ok (.iload_n 3, 1) := by decide +kernel
theorem dJ2_indexOf_4cfef_40 : decode cJ2_indexOf_4cfef 40 = .ok (.invokestatic 232, 3) := by decide +kernel
theorem dJ2_indexOf_4cfef_43 : decode cJ2_indexOf_4cfef 43 = .ok (.ireturn, 1) := by decide +kernel
theorem dJ2_indexOfChar_4cfef_0 : decode cJ2_indexOfChar_4cfef 0 = .ok (.iload_n 2, 1) := by decide +kernel
theorem dJ2_indexOfChar_4cfef_1 : decode cJ2_indexOfChar_4cfef 1 = .ok (.iload_n 3, 1) := by decide +kernel
theorem dJ2_indexOfChar_4cfef_2 : decode cJ2_indexOfChar_4cfef 2 = .ok (.aload_n 0, 1) := by decide +kernel
theorem dJ2_indexOfChar_4cfef_3 : decode cJ2_indexOfChar_4cfef 3 = .ok (.invokestatic 96, 3) := by decide +kernel
theorem dJ2_indexOfChar_4cfef_6 : decode cJ2_indexOfChar_4cfef 6 = .ok (.aload_n 0, 1) := by decide +kernel
theorem dJ2_indexOfChar_4cfef_7 : decode cJ2_indexOfChar_4cfef 7 = .ok (.iload_n 1, 1) := by decide +kernel
theorem dJ2_indexOfChar_4cfef_8 : decode cJ2_indexOfChar_4cfef 8 = .ok (.iload_n 2, 1) := by decide +kernel
theorem dJ2_indexOfChar_4cfef_9 : decode cJ2_indexOfChar_4cfef 9 = .ok (.iload_n 3, 1) := by decide +kernel
theorem dJ2_indexOfChar_4cfef_10 : decode cJ2_indexOfChar_4cfef 10 = .ok (.invokestatic 244, 3) := by decide +kernel
theorem dJ2_indexOfChar_4cfef_13 : decode cJ2_indexOfChar_4cfef 13 = .ok (.ireturn, 1) := by decide +kernel
theorem dJ2_indexOfCharUnsafe_4cfef_0 : decode cJ2_indexOfCharUnsafe_4cfef 0 = .ok (.iload_n 2, 1) := by decide +kernel
theorem dJ2_indexOfCharUnsafe_4cfef_1 : decode cJ2_indexOfCharUnsafe_4cfef 1 = .ok (.istore 4, 2) := by decide +kernel
theorem dJ2_indexOfCharUnsafe_4cfef_3 : decode cJ2_indexOfCharUnsafe_4cfef 3 = .ok (.iload 4, 2) := by decide +kernel
theorem dJ2_indexOfCharUnsafe_4cfef_5 : decode cJ2_indexOfCharUnsafe_4cfef 5 = .ok (.iload_n 3, 1) := by decide +kernel
theorem dJ2_indexOfCharUnsafe_4cfef_6 : decode cJ2_indexOfCharUnsafe_4cfef 6 = .ok (.if_icmp .ge 22, 3) := by decide +kernel
theorem dJ2_indexOfCharUnsafe_4cfef_9 : decode cJ2_indexOfCharUnsafe_4cfef 9 = .ok (.aload_n 0, 1) := by decide +kernel
theorem dJ2_indexOfCharUnsafe_4cfef_10 : decode cJ2_indexOfCharUnsafe_4cfef 10 = .ok (.iload 4, 2) := by decide +kernel
theorem dJ2_indexOfCharUnsafe_4cfef_12 : decode cJ2_indexOfCharUnsafe_4cfef 12 = .ok (.invokestatic 71, 3) := by decide +kernel
theorem dJ2_indexOfCharUnsafe_4cfef_15 : decode cJ2_indexOfCharUnsafe_4cfef 15 = .ok (.iload_n 1, 1) := by decide +kernel
theorem dJ2_indexOfCharUnsafe_4cfef_16 : decode cJ2_indexOfCharUnsafe_4cfef 16 = .ok (.if_icmp .ne 6, 3) := by decide +kernel
theorem dJ2_indexOfCharUnsafe_4cfef_19 : decode cJ2_indexOfCharUnsafe_4cfef 19 = .ok (.iload 4, 2) := by decide +kernel
theorem dJ2_indexOfCharUnsafe_4cfef_21 : decode cJ2_indexOfCharUnsafe_4cfef 21 = .ok (.ireturn, 1) := by decide +kernel
theorem dJ2_indexOfCharUnsafe_4cfef_22 : decode cJ2_indexOfCharUnsafe_4cfef 22 = .ok (.iinc 4 1, 3) := by decide +kernel
theorem dJ2_indexOfCharUnsafe_4cfef_25 : decode cJ2_indexOfCharUnsafe_4cfef 25 = .ok (.goto (-22), 3) := by decide +kernel
theorem dJ2_indexOfCharUnsafe_4cfef_28 : decode cJ2_indexOfCharUnsafe_4cfef 28 = .ok (.iconst (-1), 1) := by decide +kernel
theorem dJ2_indexOfCharUnsafe_4cfef_29 : decode cJ2_indexOfCharUnsafe_4cfef 29 = .ok (.ireturn, 1) := by decide +kernel
theorem dJ2_indexOfSupplementary_4cfef_0 : decode cJ2_indexOfSupplementary_4cfef 0 = .ok (.iload_n 1, 1) := by decide +kernel
theorem dJ2_indexOfSupplementary_4cfef_1 : decode cJ2_indexOfSupplementary_4cfef 1 = .ok (.invokestatic 164, 3) := by decide +kernel
theorem dJ2_indexOfSupplementary_4cfef_4 : decode cJ2_indexOfSupplementary_4cfef 4 = .ok (.ifCond .eq 65, 3) := by decide +kernel
theorem dJ2_indexOfSupplementary_4cfef_7 : decode cJ2_indexOfSupplementary_4cfef 7 = .ok (.iload_n 1, 1) := by decide +kernel
theorem dJ2_indexOfSupplementary_4cfef_8 : decode cJ2_indexOfSupplementary_4cfef 8 = .ok (.invokestatic 157, 3) := by decide +kernel
theorem dJ2_indexOfSupplementary_4cfef_11 : decode cJ2_indexOfSupplementary_4cfef 11 = .ok (.istore 4, 2) := by decide +kernel
theorem dJ2_indexOfSupplementary_4cfef_13 : decode cJ2_indexOfSupplementary_4cfef 13 = .ok (.iload_n 1, 1) := by decide +kernel
theorem dJ2_indexOfSupplementary_4cfef_14 : decode cJ2_indexOfSupplementary_4cfef 14 = .ok (.invokestatic 161, 3) := by decide +kernel
theorem dJ2_indexOfSupplementary_4cfef_17 : decode cJ2_indexOfSupplementary_4cfef 17 = .ok (.istore 5, 2) := by decide +kernel
theorem dJ2_indexOfSupplementary_4cfef_19 : decode cJ2_indexOfSupplementary_4cfef 19 = .ok (.iload_n 2, 1) := by decide +kernel
theorem dJ2_indexOfSupplementary_4cfef_20 : decode cJ2_indexOfSupplementary_4cfef 20 = .ok (.iload_n 3, 1) := by decide +kernel
theorem dJ2_indexOfSupplementary_4cfef_21 : decode cJ2_indexOfSupplementary_4cfef 21 = .ok (.aload_n 0, 1) := by decide +kernel
theorem dJ2_indexOfSupplementary_4cfef_22 : decode cJ2_indexOfSupplementary_4cfef 22 = .ok (.invokestatic 96, 3) := by decide +kernel
theorem dJ2_indexOfSupplementary_4cfef_25 : decode cJ2_indexOfSupplementary_4cfef 25 = .ok (.iload_n 2, 1) := by decide +kernel
theorem dJ2_indexOfSupplementary_4cfef_26 : decode cJ2_indexOfSupplementary_4cfef 26 = .ok (.istore 6, 2) := by decide +kernel
theorem dJ2_indexOfSupplementary_4cfef_28 : decode cJ2_indexOfSupplementary_4cfef 28 = .ok (.iload 6, 2) := by decide +kernel
theorem dJ2_indexOfSupplementary_4cfef_30 : decode cJ2_indexOfSupplementary_4cfef 30 = .ok (.iload_n 3, 1) := by decide +kernel
theorem dJ2_indexOfSupplementary_4cfef_31 : decode cJ2_indexOfSupplementary_4cfef 31 = .ok (.iconst 1, 1) := by decide +kernel
theorem dJ2_indexOfSupplementary_4cfef_32 : decode cJ2_indexOfSupplementary_4cfef 32 = .ok (.isub, 1) := by decide +kernel
theorem dJ2_indexOfSupplementary_4cfef_33 : decode cJ2_indexOfSupplementary_4cfef 33 = .ok (.if_icmp .ge 36, 3) := by decide +kernel
theorem dJ2_indexOfSupplementary_4cfef_36 : decode cJ2_indexOfSupplementary_4cfef 36 = .ok (.aload_n 0, 1) := by decide +kernel
theorem dJ2_indexOfSupplementary_4cfef_37 : decode cJ2_indexOfSupplementary_4cfef 37 = .ok (.iload 6, 2) := by decide +kernel
theorem dJ2_indexOfSupplementary_4cfef_39 : decode cJ2_indexOfSupplementary_4cfef 39 = .ok (.invokestatic 71, 3) := by decide +kernel
theorem dJ2_indexOfSupplementary_4cfef_42 : decode cJ2_indexOfSupplementary_4cfef 42 = .ok (.iload 4, 2) := by decide +kernel
theorem dJ2_indexOfSupplementary_4cfef_44 : decode cJ2_indexOfSupplementary_4cfef 44 = .ok (.if_icmp .ne 19, 3) := by decide +kernel
theorem dJ2_indexOfSupplementary_4cfef_47 : decode cJ2_indexOfSupplementary_4cfef 47 = .ok (.aload_n 0, 1) := by decide +kernel
theorem dJ2_indexOfSupplementary_4cfef_48 : decode cJ2_indexOfSupplementary_4cfef 48 = .ok (.iload 6, 2) := by decide +kernel
theorem dJ2_indexOfSupplementary_4cfef_50 : decode cJ2_indexOfSupplementary_4cfef 50 = .ok (.iconst 1, 1) := by decide +kernel
theorem dJ2_indexOfSupplementary_4cfef_51 : decode cJ2_indexOfSupplementary_4cfef 51 = .ok (.iadd, 1) := by decide +kernel
theorem dJ2_indexOfSupplementary_4cfef_52 : decode cJ2_indexOfSupplementary_4cfef 52 = .ok (.invokestatic 71, 3) := by decide +kernel
theorem dJ2_indexOfSupplementary_4cfef_55 : decode cJ2_indexOfSupplementary_4cfef 55 = .ok (.iload 5, 2) := by decide +kernel
theorem dJ2_indexOfSupplementary_4cfef_57 : decode cJ2_indexOfSupplementary_4cfef 57 = .ok (.if_icmp .ne 6, 3) := by decide +kernel
theorem dJ2_indexOfSupplementary_4cfef_60 : decode cJ2_indexOfSupplementary_4cfef 60 = .ok (.iload 6, 2) := by decide +kernel
theorem dJ2_indexOfSupplementary_4cfef_62 : decode cJ2_indexOfSupplementary_4cfef 62 = .ok (.ireturn, 1) := by decide +kernel
theorem dJ2_indexOfSupplementary_4cfef_63 : decode cJ2_indexOfSupplementary_4cfef 63 = .ok (.iinc 6 1, 3) := by decide +kernel
theorem dJ2_indexOfSupplementary_4cfef_66 : decode cJ2_indexOfSupplementary_4cfef 66 = .ok (.goto (-38), 3) := by decide +kernel
theorem dJ2_indexOfSupplementary_4cfef_69 : decode cJ2_indexOfSupplementary_4cfef 69 = .ok (.iconst (-1), 1) := by decide +kernel
theorem dJ2_indexOfSupplementary_4cfef_70 : decode cJ2_indexOfSupplementary_4cfef 70 = .ok (.ireturn, 1) := by decide +kernel
theorem dJ2_charAt_3b067_0 : decode cJ2_charAt_3b067 0 = .ok (.iload_n 1, 1) := by decide +kernel
theorem dJ2_charAt_3b067_1 : decode cJ2_charAt_3b067 1 = .ok (.aload_n 0, 1) := by decide +kernel
theorem dJ2_charAt_3b067_2 : decode cJ2_charAt_3b067 2 = .ok (.invokestatic 67, 3) := by decide +kernel
theorem dJ2_charAt_3b067_5 : decode cJ2_charAt_3b067 5 = .ok (.aload_n 0, 1) := by decide +kernel
theorem dJ2_charAt_3b067_6 : decode cJ2_charAt_3b067 6 = .ok (.iload_n 1, 1) := by decide +kernel
theorem dJ2_charAt_3b067_7 : decode cJ2_charAt_3b067 7 = .ok (.invokestatic 71, 3) := by decide +kernel
theorem dJ2_charAt_3b067_10 : decode cJ2_charAt_3b067 10 = .ok (.ireturn, 1) := by decide +kernel
theorem dJ2_checkIndex_2214a_0 : decode cJ2_checkIndex_2214a 0 = .ok (.iload_n 0, 1) := by decide +kernel
theorem dJ2_checkIndex_2214a_1 : decode cJ2_checkIndex_2214a 1 = .ok (.aload_n 1, 1) := by decide +kernel
theorem dJ2_checkIndex_2214a_2 : decode cJ2_checkIndex_2214a 2 = .ok (.invokestatic 48, 3) := by decide +kernel
theorem dJ2_checkIndex_2214a_5 : decode cJ2_checkIndex_2214a 5 = .ok (.invokestatic 414, 3) := by decide +kernel
theorem dJ2_checkIndex_2214a_8 : decode cJ2_checkIndex_2214a 8 = .ok (.return_, 1) := by decide +kernel
theorem dJ2_checkBoundsBeginEnd_d044e_0 : decode cJ2_checkBoundsBeginEnd_d044e 0 = .ok (.iload_n 0, 1) := by decide +kernel
theorem dJ2_checkBoundsBeginEnd_d044e_1 : decode cJ2_checkBoundsBeginEnd_d044e 1 = .ok (.iload_n 1, 1) := by decide +kernel
theorem dJ2_checkBoundsBeginEnd_d044e_2 : decode cJ2_checkBoundsBeginEnd_d044e 2 = .ok (.aload_n 2, 1) := by decide +kernel
theorem dJ2_checkBoundsBeginEnd_d044e_3 : decode cJ2_checkBoundsBeginEnd_d044e 3 = .ok (.invokestatic 48, 3) := by decide +kernel
theorem dJ2_checkBoundsBeginEnd_d044e_6 : decode cJ2_checkBoundsBeginEnd_d044e 6 = .ok (.invokestatic 241, 3) := by decide +kernel
theorem dJ2_checkBoundsBeginEnd_d044e_9 : decode cJ2_checkBoundsBeginEnd_d044e 9 = .ok (.return_, 1) := by decide +kernel
theorem dJ7_fill_d0a16_0 : decode cJ7_fill_d0a16 0 = .ok (.iconst 0, 1) := by decide +kernel
theorem dJ7_fill_d0a16_1 : decode cJ7_fill_d0a16 1 = .ok (.istore_n 3, 1) := by decide +kernel
theorem dJ7_fill_d0a16_2 : decode cJ7_fill_d0a16 2 = .ok (.aload_n 0, 1) := by decide +kernel
theorem dJ7_fill_d0a16_3 : decode cJ7_fill_d0a16 3 = .ok (.arraylength, 1) := by decide +kernel
theorem dJ7_fill_d0a16_4 : decode cJ7_fill_d0a16 4 = .ok (.istore 4, 2) := by decide +kernel
theorem dJ7_fill_d0a16_6 : decode cJ7_fill_d0a16 6 = .ok (.iload_n 3, 1) := by decide +kernel
theorem dJ7_fill_d0a16_7 : decode cJ7_fill_d0a16 7 = .ok (.iload 4, 2) := by decide +kernel
theorem dJ7_fill_d0a16_9 : decode cJ7_fill_d0a16 9 = .ok (.if_icmp .ge 13, 3) := by decide +kernel
theorem dJ7_fill_d0a16_12 : decode cJ7_fill_d0a16 12 = .ok (.aload_n 0, 1) := by decide +kernel
theorem dJ7_fill_d0a16_13 : decode cJ7_fill_d0a16 13 = .ok (.iload_n 3, 1) := by decide +kernel
theorem dJ7_fill_d0a16_14 : decode cJ7_fill_d0a16 14 = .ok (.lload_n 1, 1) := by decide +kernel
theorem dJ7_fill_d0a16_15 : decode cJ7_fill_d0a16 15 = .ok (.lastore, 1) := by decide +kernel
theorem dJ7_fill_d0a16_16 : decode cJ7_fill_d0a16 16 = .ok (.iinc 3 1, 3) := by decide +kernel
theorem dJ7_fill_d0a16_19 : decode cJ7_fill_d0a16 19 = .ok (.goto (-13), 3) := by decide +kernel
theorem dJ7_fill_d0a16_22 : decode cJ7_fill_d0a16 22 = .ok (.return_, 1) := by decide +kernel
theorem dJ7_fill_53178_0 : decode cJ7_fill_53178 0 = .ok (.iconst 0, 1) := by decide +kernel
theorem dJ7_fill_53178_1 : decode cJ7_fill_53178 1 = .ok (.istore_n 2, 1) := by decide +kernel
theorem dJ7_fill_53178_2 : decode cJ7_fill_53178 2 = .ok (.aload_n 0, 1) := by decide +kernel
theorem dJ7_fill_53178_3 : decode cJ7_fill_53178 3 = .ok (.arraylength, 1) := by decide +kernel
theorem dJ7_fill_53178_4 : decode cJ7_fill_53178 4 = .ok (.istore_n 3, 1) := by decide +kernel
theorem dJ7_fill_53178_5 : decode cJ7_fill_53178 5 = .ok (.iload_n 2, 1) := by decide +kernel
theorem dJ7_fill_53178_6 : decode cJ7_fill_53178 6 = .ok (.iload_n 3, 1) := by decide +kernel
theorem dJ7_fill_53178_7 : decode cJ7_fill_53178 7 = .ok (.if_icmp .ge 13, 3) := by decide +kernel
theorem dJ7_fill_53178_10 : decode cJ7_fill_53178 10 = .ok (.aload_n 0, 1) := by decide +kernel
theorem dJ7_fill_53178_11 : decode cJ7_fill_53178 11 = .ok (.iload_n 2, 1) := by decide +kernel
theorem dJ7_fill_53178_12 : decode cJ7_fill_53178 12 = .ok (.iload_n 1, 1) := by decide +kernel
theorem dJ7_fill_53178_13 : decode cJ7_fill_53178 13 = .ok (.iastore, 1) := by decide +kernel
theorem dJ7_fill_53178_14 : decode cJ7_fill_53178 14 = .ok (.iinc 2 1, 3) := by decide +kernel
theorem dJ7_fill_53178_17 : decode cJ7_fill_53178 17 = .ok (.goto (-12), 3) := by decide +kernel
theorem dJ7_fill_53178_20 : decode cJ7_fill_53178 20 = .ok (.return_, 1) := by decide +kernel
theorem dJ7_copyOf_59c91_0 : decode cJ7_copyOf_59c91 0 = .ok (.iload_n 1, 1) := by decide +kernel
theorem dJ7_copyOf_59c91_1 : decode cJ7_copyOf_59c91 1 = .ok (.aload_n 0, 1) := by decide +kernel
theorem dJ7_copyOf_59c91_2 : decode cJ7_copyOf_59c91 2 = .ok (.arraylength, 1) := by decide +kernel
theorem dJ7_copyOf_59c91_3 : decode cJ7_copyOf_59c91 3 = .ok (.if_icmp .ne 11, 3) := by decide +kernel
theorem dJ7_copyOf_59c91_6 : decode cJ7_copyOf_59c91 6 = .ok (.aload_n 0, 1) := by decide +kernel
theorem dJ7_copyOf_59c91_7 : decode cJ7_copyOf_59c91 7 = .ok (.invokevirtual 316, 3) := by decide +kernel
theorem dJ7_copyOf_59c91_10 : decode cJ7_copyOf_59c91 10 = .ok (.checkcast 317, 3) := by decide +kernel
theorem dJ7_copyOf_59c91_13 : decode cJ7_copyOf_59c91 13 = .ok (.areturn, 1) := by decide +kernel
theorem dJ7_copyOf_59c91_14 : decode cJ7_copyOf_59c91 14 = .ok (.iload_n 1, 1) := by decide +kernel
theorem dJ7_copyOf_59c91_15 : decode cJ7_copyOf_59c91 15 = .ok (.newarray .int, 2) := by decide +kernel
theorem dJ7_copyOf_59c91_17 : decode cJ7_copyOf_59c91 17 = .ok (.astore_n 2, 1) := by decide +kernel
theorem dJ7_copyOf_59c91_18 : decode cJ7_copyOf_59c91 18 = .ok (.aload_n 0, 1) := by decide +kernel
theorem dJ7_copyOf_59c91_19 : decode cJ7_copyOf_59c91 19 = .ok (.iconst 0, 1) := by decide +kernel
theorem dJ7_copyOf_59c91_20 : decode cJ7_copyOf_59c91 20 = .ok (.aload_n 2, 1) := by decide +kernel
theorem dJ7_copyOf_59c91_21 : decode cJ7_copyOf_59c91 21 = .ok (.iconst 0, 1) := by decide +kernel
theorem dJ7_copyOf_59c91_22 : decode cJ7_copyOf_59c91 22 = .ok (.aload_n 0, 1) := by decide +kernel
theorem dJ7_copyOf_59c91_23 : decode cJ7_copyOf_59c91 23 = .ok (.arraylength, 1) := by decide +kernel
theorem dJ7_copyOf_59c91_24 : decode cJ7_copyOf_59c91 24 = .ok (.iload_n 1, 1) := by decide +kernel
theorem dJ7_copyOf_59c91_25 : decode cJ7_copyOf_59c91 25 = .ok (.invokestatic 304, 3) := by decide +kernel
theorem dJ7_copyOf_59c91_28 : decode cJ7_copyOf_59c91 28 = .ok (.invokestatic 150, 3) := by decide +kernel
theorem dJ7_copyOf_59c91_31 : decode cJ7_copyOf_59c91 31 = .ok (.aload_n 2, 1) := by decide +kernel
theorem dJ7_copyOf_59c91_32 : decode cJ7_copyOf_59c91 32 = .ok (.areturn, 1) := by decide +kernel
theorem dJ3_checkIndex_8e157_0 : decode cJ3_checkIndex_8e157 0 = .ok (.iload_n 0, 1) := by decide +kernel
theorem dJ3_checkIndex_8e157_1 : decode cJ3_checkIndex_8e157 1 = .ok (.ifCond .lt 8, 3) := by decide +kernel
theorem dJ3_checkIndex_8e157_4 : decode cJ3_checkIndex_8e157 4 = .ok (.iload_n 0, 1) := by decide +kernel
theorem dJ3_checkIndex_8e157_5 : decode cJ3_checkIndex_8e157 5 = .ok (.iload_n 1, 1) := by decide +kernel
theorem dJ3_checkIndex_8e157_6 : decode cJ3_checkIndex_8e157 6 = .ok (.if_icmp .lt 10, 3) := by decide +kernel
theorem dJ3_checkIndex_8e157_9 : decode cJ3_checkIndex_8e157 9 = .ok (.aload_n 2, 1) := by decide +kernel
theorem dJ3_checkIndex_8e157_10 : decode cJ3_checkIndex_8e157 10 = .ok (.iload_n 0, 1) := by decide +kernel
theorem dJ3_checkIndex_8e157_11 : decode cJ3_checkIndex_8e157 11 = .ok (.iload_n 1, 1) := by decide +kernel
theorem dJ3_checkIndex_8e157_12 : decode cJ3_checkIndex_8e157 12 = .ok (.invokestatic 95, 3) := by decide +kernel
theorem dJ3_checkIndex_8e157_15 : decode cJ3_checkIndex_8e157 15 = .ok (.athrow, 1) := by decide +kernel
theorem dJ3_checkIndex_8e157_16 : decode cJ3_checkIndex_8e157 16 = .ok (.iload_n 0, 1) := by decide +kernel
theorem dJ3_checkIndex_8e157_17 : decode cJ3_checkIndex_8e157 17 = .ok (.ireturn, 1) := by decide +kernel
theorem dJ3_checkFromToIndex_8c36e_0 : decode cJ3_checkFromToIndex_8c36e 0 = .ok (.iload_n 0, 1) := by decide +kernel
theorem dJ3_checkFromToIndex_8c36e_1 : decode cJ3_checkFromToIndex_8c36e 1 = .ok (.ifCond .lt 13, 3) := by decide +kernel
theorem dJ3_checkFromToIndex_8c36e_4 : decode cJ3_checkFromToIndex_8c36e 4 = .ok (.iload_n 0, 1) := by decide +kernel
theorem dJ3_checkFromToIndex_8c36e_5 : decode cJ3_checkFromToIndex_8c36e 5 = .ok (.iload_n 1, 1) := by decide +kernel
theorem dJ3_checkFromToIndex_8c36e_6 : decode cJ3_checkFromToIndex_8c36e 6 = .ok (.if_icmp .gt 8, 3) := by decide +kernel
theorem dJ3_checkFromToIndex_8c36e_9 : decode cJ3_checkFromToIndex_8c36e 9 = .ok (.iload_n 1, 1) := by decide +kernel
theorem dJ3_checkFromToIndex_8c36e_10 : decode cJ3_checkFromToIndex_8c36e 10 = .ok (.iload_n 2, 1) := by decide +kernel
theorem dJ3_checkFromToIndex_8c36e_11 : decode cJ3_checkFromToIndex_8c36e 11 = .ok (.if_icmp .le 11, 3) := by decide +kernel
theorem dJ3_checkFromToIndex_8c36e_14 : decode cJ3_checkFromToIndex_8c36e 14 = .ok (.aload_n 3, 1) := by decide +kernel
theorem dJ3_checkFromToIndex_8c36e_15 : decode cJ3_checkFromToIndex_8c36e 15 = .ok (.iload_n 0, 1) := by decide +kernel
theorem dJ3_checkFromToIndex_8c36e_16 : decode cJ3_checkFromToIndex_8c36e 16 = .ok (.iload_n 1, 1) := by decide +kernel
theorem dJ3_checkFromToIndex_8c36e_17 : decode cJ3_checkFromToIndex_8c36e 17 = .ok (.iload_n 2, 1) := by decide +kernel
theorem dJ3_checkFromToIndex_8c36e_18 : decode cJ3_checkFromToIndex_8c36e 18 = .ok (.invokestatic 99, 3) := by decide +kernel
theorem dJ3_checkFromToIndex_8c36e_21 : decode cJ3_checkFromToIndex_8c36e 21 = .ok (.athrow, 1) := by decide +kernel
theorem dJ3_checkFromToIndex_8c36e_22 : decode cJ3_checkFromToIndex_8c36e 22 = .ok (.iload_n 0, 1) := by decide +kernel
theorem dJ3_checkFromToIndex_8c36e_23 : decode cJ3_checkFromToIndex_8c36e 23 = .ok (.ireturn, 1) := by decide +kernel
theorem dL_law_0 : decode cL_law 0 = .ok (.new 7, 3) := by decide +kernel
theorem dL_law_3 : decode cL_law 3 = .ok (.dup, 1) := by decide +kernel
theorem dL_law_4 : decode cL_law 4 = .ok (.invokespecial 9, 3) := by decide +kernel
theorem dL_law_7 : decode cL_law 7 = .ok (.astore_n 1, 1) := by decide +kernel
theorem dL_law_8 : decode cL_law 8 = .ok (.new 10, 3) := by decide +kernel
theorem dL_law_11 : decode cL_law 11 = .ok (.dup, 1) := by decide +kernel
theorem dL_law_12 : decode cL_law 12 = .ok (.invokespecial 12, 3) := by decide +kernel
theorem dL_law_15 : decode cL_law 15 = .ok (.astore_n 2, 1) := by decide +kernel
theorem dL_law_16 : decode cL_law 16 = .ok (.iconst 0, 1) := by decide +kernel
theorem dL_law_17 : decode cL_law 17 = .ok (.istore_n 3, 1) := by decide +kernel
theorem dL_law_18 : decode cL_law 18 = .ok (.iload_n 3, 1) := by decide +kernel
theorem dL_law_19 : decode cL_law 19 = .ok (.aload_n 0, 1) := by decide +kernel
theorem dL_law_20 : decode cL_law 20 = .ok (.arraylength, 1) := by decide +kernel
theorem dL_law_21 : decode cL_law 21 = .ok (.bipush 6, 2) := by decide +kernel
theorem dL_law_23 : decode cL_law 23 = .ok (.isub, 1) := by decide +kernel
theorem dL_law_24 : decode cL_law 24 = .ok (.if_icmp .gt 1038, 3) := by decide +kernel
theorem dL_law_27 : decode cL_law 27 = .ok (.aload_n 0, 1) := by decide +kernel
theorem dL_law_28 : decode cL_law 28 = .ok (.iload_n 3, 1) := by decide +kernel
theorem dL_law_29 : decode cL_law 29 = .ok (.iaload, 1) := by decide +kernel
theorem dL_law_30 : decode cL_law 30 = .ok (.bipush 31, 2) := by decide +kernel
theorem dL_law_32 : decode cL_law 32 = .ok (.iand, 1) := by decide +kernel
theorem dL_law_33 : decode cL_law 33 = .ok (.tableswitch 1023 0 24 #[115, 158, 201, 234, 287, 350, 363, 386, 419, 462, 485, 509, 542, 585, 628, 672, 716, 739, 752, 765, 788, 831, 874, 937, 990], 115) := by decide +kernel
theorem dL_law_148 : decode cL_law 148 = .ok (.aload_n 1, 1) := by decide +kernel
theorem dL_law_149 : decode cL_law 149 = .ok (.aload_n 0, 1) := by decide +kernel
theorem dL_law_150 : decode cL_law 150 = .ok (.iload_n 3, 1) := by decide +kernel
theorem dL_law_151 : decode cL_law 151 = .ok (.iconst 1, 1) := by decide +kernel
theorem dL_law_152 : decode cL_law 152 = .ok (.iadd, 1) := by decide +kernel
theorem dL_law_153 : decode cL_law 153 = .ok (.iaload, 1) := by decide +kernel
theorem dL_law_154 : decode cL_law 154 = .ok (.aload_n 0, 1) := by decide +kernel
theorem dL_law_155 : decode cL_law 155 = .ok (.iload_n 3, 1) := by decide +kernel
theorem dL_law_156 : decode cL_law 156 = .ok (.iconst 2, 1) := by decide +kernel
theorem dL_law_157 : decode cL_law 157 = .ok (.iadd, 1) := by decide +kernel
theorem dL_law_158 : decode cL_law 158 = .ok (.iaload, 1) := by decide +kernel
theorem dL_law_159 : decode cL_law 159 = .ok (.aload_n 0, 1) := by decide +kernel
theorem dL_law_160 : decode cL_law 160 = .ok (.iload_n 3, 1) := by decide +kernel
theorem dL_law_161 : decode cL_law 161 = .ok (.iconst 3, 1) := by decide +kernel
theorem dL_law_162 : decode cL_law 162 = .ok (.iadd, 1) := by decide +kernel
theorem dL_law_163 : decode cL_law 163 = .ok (.iaload, 1) := by decide +kernel
theorem dL_law_164 : decode cL_law 164 = .ok (.invokevirtual 13, 3) := by decide +kernel
theorem dL_law_167 : decode cL_law 167 = .ok (.aload_n 2, 1) := by decide +kernel
theorem dL_law_168 : decode cL_law 168 = .ok (.aload_n 0, 1) := by decide +kernel
theorem dL_law_169 : decode cL_law 169 = .ok (.iload_n 3, 1) := by decide +kernel
theorem dL_law_170 : decode cL_law 170 = .ok (.iconst 1, 1) := by decide +kernel
theorem dL_law_171 : decode cL_law 171 = .ok (.iadd, 1) := by decide +kernel
theorem dL_law_172 : decode cL_law 172 = .ok (.iaload, 1) := by decide +kernel
theorem dL_law_173 : decode cL_law 173 = .ok (.aload_n 0, 1) := by decide +kernel
theorem dL_law_174 : decode cL_law 174 = .ok (.iload_n 3, 1) := by decide +kernel
theorem dL_law_175 : decode cL_law 175 = .ok (.iconst 2, 1) := by decide +kernel
theorem dL_law_176 : decode cL_law 176 = .ok (.iadd, 1) := by decide +kernel
theorem dL_law_177 : decode cL_law 177 = .ok (.iaload, 1) := by decide +kernel
theorem dL_law_178 : decode cL_law 178 = .ok (.aload_n 0, 1) := by decide +kernel
theorem dL_law_179 : decode cL_law 179 = .ok (.iload_n 3, 1) := by decide +kernel
theorem dL_law_180 : decode cL_law 180 = .ok (.iconst 3, 1) := by decide +kernel
theorem dL_law_181 : decode cL_law 181 = .ok (.iadd, 1) := by decide +kernel
theorem dL_law_182 : decode cL_law 182 = .ok (.iaload, 1) := by decide +kernel
theorem dL_law_183 : decode cL_law 183 = .ok (.invokevirtual 17, 3) := by decide +kernel
theorem dL_law_186 : decode cL_law 186 = .ok (.if_icmp .eq 870, 3) := by decide +kernel
theorem dL_law_189 : decode cL_law 189 = .ok (.iconst 0, 1) := by decide +kernel
theorem dL_law_190 : decode cL_law 190 = .ok (.ireturn, 1) := by decide +kernel
theorem dL_law_191 : decode cL_law 191 = .ok (.aload_n 1, 1) := by decide +kernel
theorem dL_law_192 : decode cL_law 192 = .ok (.aload_n 0, 1) := by decide +kernel
theorem dL_law_193 : decode cL_law 193 = .ok (.iload_n 3, 1) := by decide +kernel
theorem dL_law_194 : decode cL_law 194 = .ok (.iconst 1, 1) := by decide +kernel
theorem dL_law_195 : decode cL_law 195 = .ok (.iadd, 1) := by decide +kernel
theorem dL_law_196 : decode cL_law 196 = .ok (.iaload, 1) := by decide +kernel
theorem dL_law_197 : decode cL_law 197 = .ok (.aload_n 0, 1) := by decide +kernel
theorem dL_law_198 : decode cL_law 198 = .ok (.iload_n 3, 1) := by decide +kernel
theorem dL_law_199 : decode cL_law 199 = .ok (.iconst 2, 1) := by decide +kernel
theorem dL_law_200 : decode cL_law 200 = .ok (.iadd, 1) := by decide +kernel
theorem dL_law_201 : decode cL_law 201 = .ok (.iaload, 1) := by decide +kernel
theorem dL_law_202 : decode cL_law 202 = .ok (.aload_n 0, 1) := by decide +kernel
theorem dL_law_203 : decode cL_law 203 = .ok (.iload_n 3, 1) := by decide +kernel
theorem dL_law_204 : decode cL_law 204 = .ok (.iconst 3, 1) := by decide +kernel
theorem dL_law_205 : decode cL_law 205 = .ok (.iadd, 1) := by decide +kernel
theorem dL_law_206 : decode cL_law 206 = .ok (.iaload, 1) := by decide +kernel
theorem dL_law_207 : decode cL_law 207 = .ok (.invokevirtual 18, 3) := by decide +kernel
theorem dL_law_210 : decode cL_law 210 = .ok (.aload_n 2, 1) := by decide +kernel
theorem dL_law_211 : decode cL_law 211 = .ok (.aload_n 0, 1) := by decide +kernel
theorem dL_law_212 : decode cL_law 212 = .ok (.iload_n 3, 1) := by decide +kernel
theorem dL_law_213 : decode cL_law 213 = .ok (.iconst 1, 1) := by decide +kernel
theorem dL_law_214 : decode cL_law 214 = .ok (.iadd, 1) := by decide +kernel
theorem dL_law_215 : decode cL_law 215 = .ok (.iaload, 1) := by decide +kernel
theorem dL_law_216 : decode cL_law 216 = .ok (.aload_n 0, 1) := by decide +kernel
theorem dL_law_217 : decode cL_law 217 = .ok (.iload_n 3, 1) := by decide +kernel
theorem dL_law_218 : decode cL_law 218 = .ok (.iconst 2, 1) := by decide +kernel
theorem dL_law_219 : decode cL_law 219 = .ok (.iadd, 1) := by decide +kernel
theorem dL_law_220 : decode cL_law 220 = .ok (.iaload, 1) := by decide +kernel
theorem dL_law_221 : decode cL_law 221 = .ok (.aload_n 0, 1) := by decide +kernel
theorem dL_law_222 : decode cL_law 222 = .ok (.iload_n 3, 1) := by decide +kernel
theorem dL_law_223 : decode cL_law 223 = .ok (.iconst 3, 1) := by decide +kernel
theorem dL_law_224 : decode cL_law 224 = .ok (.iadd, 1) := by decide +kernel
theorem dL_law_225 : decode cL_law 225 = .ok (.iaload, 1) := by decide +kernel
theorem dL_law_226 : decode cL_law 226 = .ok (.invokevirtual 21, 3) := by decide +kernel
theorem dL_law_229 : decode cL_law 229 = .ok (.if_icmp .eq 827, 3) := by decide +kernel
theorem dL_law_232 : decode cL_law 232 = .ok (.iconst 0, 1) := by decide +kernel
theorem dL_law_233 : decode cL_law 233 = .ok (.ireturn, 1) := by decide +kernel
theorem dL_law_234 : decode cL_law 234 = .ok (.aload_n 1, 1) := by decide +kernel
theorem dL_law_235 : decode cL_law 235 = .ok (.aload_n 0, 1) := by decide +kernel
theorem dL_law_236 : decode cL_law 236 = .ok (.iload_n 3, 1) := by decide +kernel
theorem dL_law_237 : decode cL_law 237 = .ok (.iconst 1, 1) := by decide +kernel
theorem dL_law_238 : decode cL_law 238 = .ok (.iadd, 1) := by decide +kernel
theorem dL_law_239 : decode cL_law 239 = .ok (.iaload, 1) := by decide +kernel
theorem dL_law_240 : decode cL_law 240 = .ok (.aload_n 0, 1) := by decide +kernel
theorem dL_law_241 : decode cL_law 241 = .ok (.iload_n 3, 1) := by decide +kernel
theorem dL_law_242 : decode cL_law 242 = .ok (.iconst 2, 1) := by decide +kernel
theorem dL_law_243 : decode cL_law 243 = .ok (.iadd, 1) := by decide +kernel
theorem dL_law_244 : decode cL_law 244 = .ok (.iaload, 1) := by decide +kernel
theorem dL_law_245 : decode cL_law 245 = .ok (.invokevirtual 22, 3) := by decide +kernel
theorem dL_law_248 : decode cL_law 248 = .ok (.aload_n 2, 1) := by decide +kernel
theorem dL_law_249 : decode cL_law 249 = .ok (.aload_n 0, 1) := by decide +kernel
theorem dL_law_250 : decode cL_law 250 = .ok (.iload_n 3, 1) := by decide +kernel
theorem dL_law_251 : decode cL_law 251 = .ok (.iconst 1, 1) := by decide +kernel
theorem dL_law_252 : decode cL_law 252 = .ok (.iadd, 1) := by decide +kernel
theorem dL_law_253 : decode cL_law 253 = .ok (.iaload, 1) := by decide +kernel
theorem dL_law_254 : decode cL_law 254 = .ok (.aload_n 0, 1) := by decide +kernel
theorem dL_law_255 : decode cL_law 255 = .ok (.iload_n 3, 1) := by decide +kernel
theorem dL_law_256 : decode cL_law 256 = .ok (.iconst 2, 1) := by decide +kernel
theorem dL_law_257 : decode cL_law 257 = .ok (.iadd, 1) := by decide +kernel
theorem dL_law_258 : decode cL_law 258 = .ok (.iaload, 1) := by decide +kernel
theorem dL_law_259 : decode cL_law 259 = .ok (.invokevirtual 26, 3) := by decide +kernel
theorem dL_law_262 : decode cL_law 262 = .ok (.if_icmp .eq 794, 3) := by decide +kernel
theorem dL_law_265 : decode cL_law 265 = .ok (.iconst 0, 1) := by decide +kernel
theorem dL_law_266 : decode cL_law 266 = .ok (.ireturn, 1) := by decide +kernel
theorem dL_law_267 : decode cL_law 267 = .ok (.aload_n 1, 1) := by decide +kernel
theorem dL_law_268 : decode cL_law 268 = .ok (.aload_n 0, 1) := by decide +kernel
theorem dL_law_269 : decode cL_law 269 = .ok (.iload_n 3, 1) := by decide +kernel
theorem dL_law_270 : decode cL_law 270 = .ok (.iconst 1, 1) := by decide +kernel
theorem dL_law_271 : decode cL_law 271 = .ok (.iadd, 1) := by decide +kernel
theorem dL_law_272 : decode cL_law 272 = .ok (.iaload, 1) := by decide +kernel
theorem dL_law_273 : decode cL_law 273 = .ok (.aload_n 0, 1) := by decide +kernel
theorem dL_law_274 : decode cL_law 274 = .ok (.iload_n 3, 1) := by decide +kernel
theorem dL_law_275 : decode cL_law 275 = .ok (.iconst 2, 1) := by decide +kernel
theorem dL_law_276 : decode cL_law 276 = .ok (.iadd, 1) := by decide +kernel
theorem dL_law_277 : decode cL_law 277 = .ok (.iaload, 1) := by decide +kernel
theorem dL_law_278 : decode cL_law 278 = .ok (.aload_n 0, 1) := by decide +kernel
theorem dL_law_279 : decode cL_law 279 = .ok (.iload_n 3, 1) := by decide +kernel
theorem dL_law_280 : decode cL_law 280 = .ok (.iconst 3, 1) := by decide +kernel
theorem dL_law_281 : decode cL_law 281 = .ok (.iadd, 1) := by decide +kernel
theorem dL_law_282 : decode cL_law 282 = .ok (.iaload, 1) := by decide +kernel
theorem dL_law_283 : decode cL_law 283 = .ok (.aload_n 0, 1) := by decide +kernel
theorem dL_law_284 : decode cL_law 284 = .ok (.iload_n 3, 1) := by decide +kernel
theorem dL_law_285 : decode cL_law 285 = .ok (.iconst 4, 1) := by decide +kernel
theorem dL_law_286 : decode cL_law 286 = .ok (.iadd, 1) := by decide +kernel
theorem dL_law_287 : decode cL_law 287 = .ok (.iaload, 1) := by decide +kernel
theorem dL_law_288 : decode cL_law 288 = .ok (.invokevirtual 27, 3) := by decide +kernel
theorem dL_law_291 : decode cL_law 291 = .ok (.aload_n 2, 1) := by decide +kernel
theorem dL_law_292 : decode cL_law 292 = .ok (.aload_n 0, 1) := by decide +kernel
theorem dL_law_293 : decode cL_law 293 = .ok (.iload_n 3, 1) := by decide +kernel
theorem dL_law_294 : decode cL_law 294 = .ok (.iconst 1, 1) := by decide +kernel
theorem dL_law_295 : decode cL_law 295 = .ok (.iadd, 1) := by decide +kernel
theorem dL_law_296 : decode cL_law 296 = .ok (.iaload, 1) := by decide +kernel
theorem dL_law_297 : decode cL_law 297 = .ok (.aload_n 0, 1) := by decide +kernel
theorem dL_law_298 : decode cL_law 298 = .ok (.iload_n 3, 1) := by decide +kernel
theorem dL_law_299 : decode cL_law 299 = .ok (.iconst 2, 1) := by decide +kernel
theorem dL_law_300 : decode cL_law 300 = .ok (.iadd, 1) := by decide +kernel
theorem dL_law_301 : decode cL_law 301 = .ok (.iaload, 1) := by decide +kernel
theorem dL_law_302 : decode cL_law 302 = .ok (.aload_n 0, 1) := by decide +kernel
theorem dL_law_303 : decode cL_law 303 = .ok (.iload_n 3, 1) := by decide +kernel
theorem dL_law_304 : decode cL_law 304 = .ok (.iconst 3, 1) := by decide +kernel
theorem dL_law_305 : decode cL_law 305 = .ok (.iadd, 1) := by decide +kernel
theorem dL_law_306 : decode cL_law 306 = .ok (.iaload, 1) := by decide +kernel
theorem dL_law_307 : decode cL_law 307 = .ok (.aload_n 0, 1) := by decide +kernel
theorem dL_law_308 : decode cL_law 308 = .ok (.iload_n 3, 1) := by decide +kernel
theorem dL_law_309 : decode cL_law 309 = .ok (.iconst 4, 1) := by decide +kernel
theorem dL_law_310 : decode cL_law 310 = .ok (.iadd, 1) := by decide +kernel
theorem dL_law_311 : decode cL_law 311 = .ok (.iaload, 1) := by decide +kernel
theorem dL_law_312 : decode cL_law 312 = .ok (.invokevirtual 31, 3) := by decide +kernel
theorem dL_law_315 : decode cL_law 315 = .ok (.if_icmp .eq 741, 3) := by decide +kernel
theorem dL_law_318 : decode cL_law 318 = .ok (.iconst 0, 1) := by decide +kernel
theorem dL_law_319 : decode cL_law 319 = .ok (.ireturn, 1) := by decide +kernel
theorem dL_law_320 : decode cL_law 320 = .ok (.aload_n 1, 1) := by decide +kernel
theorem dL_law_321 : decode cL_law 321 = .ok (.aload_n 0, 1) := by decide +kernel
theorem dL_law_322 : decode cL_law 322 = .ok (.iload_n 3, 1) := by decide +kernel
theorem dL_law_323 : decode cL_law 323 = .ok (.iconst 1, 1) := by decide +kernel
theorem dL_law_324 : decode cL_law 324 = .ok (.iadd, 1) := by decide +kernel
theorem dL_law_325 : decode cL_law 325 = .ok (.iaload, 1) := by decide +kernel
theorem dL_law_326 : decode cL_law 326 = .ok (.aload_n 0, 1) := by decide +kernel
theorem dL_law_327 : decode cL_law 327 = .ok (.iload_n 3, 1) := by decide +kernel
theorem dL_law_328 : decode cL_law 328 = .ok (.iconst 2, 1) := by decide +kernel
theorem dL_law_329 : decode cL_law 329 = .ok (.iadd, 1) := by decide +kernel
theorem dL_law_330 : decode cL_law 330 = .ok (.iaload, 1) := by decide +kernel
theorem dL_law_331 : decode cL_law 331 = .ok (.i2l, 1) := by decide +kernel
theorem dL_law_332 : decode cL_law 332 = .ok (.bipush 32, 2) := by decide +kernel
theorem dL_law_334 : decode cL_law 334 = .ok (.lshl, 1) := by decide +kernel
theorem dL_law_335 : decode cL_law 335 = .ok (.aload_n 0, 1) := by decide +kernel
theorem dL_law_336 : decode cL_law 336 = .ok (.iload_n 3, 1) := by decide +kernel
theorem dL_law_337 : decode cL_law 337 = .ok (.iconst 3, 1) := by decide +kernel
theorem dL_law_338 : decode cL_law 338 = .ok (.iadd, 1) := by decide +kernel
theorem dL_law_339 : decode cL_law 339 = .ok (.iaload, 1) := by decide +kernel
theorem dL_law_340 : decode cL_law 340 = .ok (.i2l, 1) := by decide +kernel
theorem dL_law_341 : decode cL_law 341 = .ok (.ldc2_w 32, 3) := by decide +kernel
theorem dL_law_344 : decode cL_law 344 = .ok (.land, 1) := by decide +kernel
theorem dL_law_345 : decode cL_law 345 = .ok (.lor, 1) := by decide +kernel
theorem dL_law_346 : decode cL_law 346 = .ok (.invokevirtual 34, 3) := by decide +kernel
theorem dL_law_349 : decode cL_law 349 = .ok (.aload_n 2, 1) := by decide +kernel
theorem dL_law_350 : decode cL_law 350 = .ok (.aload_n 0, 1) := by decide +kernel
theorem dL_law_351 : decode cL_law 351 = .ok (.iload_n 3, 1) := by decide +kernel
theorem dL_law_352 : decode cL_law 352 = .ok (.iconst 1, 1) := by decide +kernel
theorem dL_law_353 : decode cL_law 353 = .ok (.iadd, 1) := by decide +kernel
theorem dL_law_354 : decode cL_law 354 = .ok (.iaload, 1) := by decide +kernel
theorem dL_law_355 : decode cL_law 355 = .ok (.aload_n 0, 1) := by decide +kernel
theorem dL_law_356 : decode cL_law 356 = .ok (.iload_n 3, 1) := by decide +kernel
theorem dL_law_357 : decode cL_law 357 = .ok (.iconst 2, 1) := by decide +kernel
theorem dL_law_358 : decode cL_law 358 = .ok (.iadd, 1) := by decide +kernel
theorem dL_law_359 : decode cL_law 359 = .ok (.iaload, 1) := by decide +kernel
theorem dL_law_360 : decode cL_law 360 = .ok (.i2l, 1) := by decide +kernel
theorem dL_law_361 : decode cL_law 361 = .ok (.bipush 32, 2) := by decide +kernel
theorem dL_law_363 : decode cL_law 363 = .ok (.lshl, 1) := by decide +kernel
theorem dL_law_364 : decode cL_law 364 = .ok (.aload_n 0, 1) := by decide +kernel
theorem dL_law_365 : decode cL_law 365 = .ok (.iload_n 3, 1) := by decide +kernel
theorem dL_law_366 : decode cL_law 366 = .ok (.iconst 3, 1) := by decide +kernel
theorem dL_law_367 : decode cL_law 367 = .ok (.iadd, 1) := by decide +kernel
theorem dL_law_368 : decode cL_law 368 = .ok (.iaload, 1) := by decide +kernel
theorem dL_law_369 : decode cL_law 369 = .ok (.i2l, 1) := by decide +kernel
theorem dL_law_370 : decode cL_law 370 = .ok (.ldc2_w 32, 3) := by decide +kernel
theorem dL_law_373 : decode cL_law 373 = .ok (.land, 1) := by decide +kernel
theorem dL_law_374 : decode cL_law 374 = .ok (.lor, 1) := by decide +kernel
theorem dL_law_375 : decode cL_law 375 = .ok (.invokevirtual 38, 3) := by decide +kernel
theorem dL_law_378 : decode cL_law 378 = .ok (.if_icmp .eq 678, 3) := by decide +kernel
theorem dL_law_381 : decode cL_law 381 = .ok (.iconst 0, 1) := by decide +kernel
theorem dL_law_382 : decode cL_law 382 = .ok (.ireturn, 1) := by decide +kernel
theorem dL_law_383 : decode cL_law 383 = .ok (.aload_n 1, 1) := by decide +kernel
theorem dL_law_384 : decode cL_law 384 = .ok (.invokevirtual 39, 3) := by decide +kernel
theorem dL_law_387 : decode cL_law 387 = .ok (.aload_n 2, 1) := by decide +kernel
theorem dL_law_388 : decode cL_law 388 = .ok (.invokevirtual 43, 3) := by decide +kernel
theorem dL_law_391 : decode cL_law 391 = .ok (.if_icmp .eq 665, 3) := by decide +kernel
theorem dL_law_394 : decode cL_law 394 = .ok (.iconst 0, 1) := by decide +kernel
theorem dL_law_395 : decode cL_law 395 = .ok (.ireturn, 1) := by decide +kernel
theorem dL_law_396 : decode cL_law 396 = .ok (.aload_n 1, 1) := by decide +kernel
theorem dL_law_397 : decode cL_law 397 = .ok (.aload_n 0, 1) := by decide +kernel
theorem dL_law_398 : decode cL_law 398 = .ok (.iload_n 3, 1) := by decide +kernel
theorem dL_law_399 : decode cL_law 399 = .ok (.iconst 1, 1) := by decide +kernel
theorem dL_law_400 : decode cL_law 400 = .ok (.iadd, 1) := by decide +kernel
theorem dL_law_401 : decode cL_law 401 = .ok (.iaload, 1) := by decide +kernel
theorem dL_law_402 : decode cL_law 402 = .ok (.invokevirtual 44, 3) := by decide +kernel
theorem dL_law_405 : decode cL_law 405 = .ok (.aload_n 2, 1) := by decide +kernel
theorem dL_law_406 : decode cL_law 406 = .ok (.aload_n 0, 1) := by decide +kernel
theorem dL_law_407 : decode cL_law 407 = .ok (.iload_n 3, 1) := by decide +kernel
theorem dL_law_408 : decode cL_law 408 = .ok (.iconst 1, 1) := by decide +kernel
theorem dL_law_409 : decode cL_law 409 = .ok (.iadd, 1) := by decide +kernel
theorem dL_law_410 : decode cL_law 410 = .ok (.iaload, 1) := by decide +kernel
theorem dL_law_411 : decode cL_law 411 = .ok (.invokevirtual 48, 3) := by decide +kernel
theorem dL_law_414 : decode cL_law 414 = .ok (.if_icmp .eq 642, 3) := by decide +kernel
theorem dL_law_417 : decode cL_law 417 = .ok (.iconst 0, 1) := by decide +kernel
theorem dL_law_418 : decode cL_law 418 = .ok (.ireturn, 1) := by decide +kernel
theorem dL_law_419 : decode cL_law 419 = .ok (.aload_n 1, 1) := by decide +kernel
theorem dL_law_420 : decode cL_law 420 = .ok (.aload_n 0, 1) := by decide +kernel
theorem dL_law_421 : decode cL_law 421 = .ok (.iload_n 3, 1) := by decide +kernel
theorem dL_law_422 : decode cL_law 422 = .ok (.iconst 1, 1) := by decide +kernel
theorem dL_law_423 : decode cL_law 423 = .ok (.iadd, 1) := by decide +kernel
theorem dL_law_424 : decode cL_law 424 = .ok (.iaload, 1) := by decide +kernel
theorem dL_law_425 : decode cL_law 425 = .ok (.aload_n 0, 1) := by decide +kernel
theorem dL_law_426 : decode cL_law 426 = .ok (.iload_n 3, 1) := by decide +kernel
theorem dL_law_427 : decode cL_law 427 = .ok (.iconst 2, 1) := by decide +kernel
theorem dL_law_428 : decode cL_law 428 = .ok (.iadd, 1) := by decide +kernel
theorem dL_law_429 : decode cL_law 429 = .ok (.iaload, 1) := by decide +kernel
theorem dL_law_430 : decode cL_law 430 = .ok (.invokevirtual 49, 3) := by decide +kernel
theorem dL_law_433 : decode cL_law 433 = .ok (.aload_n 2, 1) := by decide +kernel
theorem dL_law_434 : decode cL_law 434 = .ok (.aload_n 0, 1) := by decide +kernel
theorem dL_law_435 : decode cL_law 435 = .ok (.iload_n 3, 1) := by decide +kernel
theorem dL_law_436 : decode cL_law 436 = .ok (.iconst 1, 1) := by decide +kernel
theorem dL_law_437 : decode cL_law 437 = .ok (.iadd, 1) := by decide +kernel
theorem dL_law_438 : decode cL_law 438 = .ok (.iaload, 1) := by decide +kernel
theorem dL_law_439 : decode cL_law 439 = .ok (.aload_n 0, 1) := by decide +kernel
theorem dL_law_440 : decode cL_law 440 = .ok (.iload_n 3, 1) := by decide +kernel
theorem dL_law_441 : decode cL_law 441 = .ok (.iconst 2, 1) := by decide +kernel
theorem dL_law_442 : decode cL_law 442 = .ok (.iadd, 1) := by decide +kernel
theorem dL_law_443 : decode cL_law 443 = .ok (.iaload, 1) := by decide +kernel
theorem dL_law_444 : decode cL_law 444 = .ok (.invokevirtual 52, 3) := by decide +kernel
theorem dL_law_447 : decode cL_law 447 = .ok (.if_icmp .eq 609, 3) := by decide +kernel
theorem dL_law_450 : decode cL_law 450 = .ok (.iconst 0, 1) := by decide +kernel
theorem dL_law_451 : decode cL_law 451 = .ok (.ireturn, 1) := by decide +kernel
theorem dL_law_452 : decode cL_law 452 = .ok (.aload_n 1, 1) := by decide +kernel
theorem dL_law_453 : decode cL_law 453 = .ok (.aload_n 0, 1) := by decide +kernel
theorem dL_law_454 : decode cL_law 454 = .ok (.iload_n 3, 1) := by decide +kernel
theorem dL_law_455 : decode cL_law 455 = .ok (.iconst 1, 1) := by decide +kernel
theorem dL_law_456 : decode cL_law 456 = .ok (.iadd, 1) := by decide +kernel
theorem dL_law_457 : decode cL_law 457 = .ok (.iaload, 1) := by decide +kernel
theorem dL_law_458 : decode cL_law 458 = .ok (.aload_n 0, 1) := by decide +kernel
theorem dL_law_459 : decode cL_law 459 = .ok (.iload_n 3, 1) := by decide +kernel
theorem dL_law_460 : decode cL_law 460 = .ok (.iconst 2, 1) := by decide +kernel
theorem dL_law_461 : decode cL_law 461 = .ok (.iadd, 1) := by decide +kernel
theorem dL_law_462 : decode cL_law 462 = .ok (.iaload, 1) := by decide +kernel
theorem dL_law_463 : decode cL_law 463 = .ok (.aload_n 0, 1) := by decide +kernel
theorem dL_law_464 : decode cL_law 464 = .ok (.iload_n 3, 1) := by decide +kernel
theorem dL_law_465 : decode cL_law 465 = .ok (.iconst 3, 1) := by decide +kernel
theorem dL_law_466 : decode cL_law 466 = .ok (.iadd, 1) := by decide +kernel
theorem dL_law_467 : decode cL_law 467 = .ok (.iaload, 1) := by decide +kernel
theorem dL_law_468 : decode cL_law 468 = .ok (.invokevirtual 53, 3) := by decide +kernel
theorem dL_law_471 : decode cL_law 471 = .ok (.aload_n 2, 1) := by decide +kernel
theorem dL_law_472 : decode cL_law 472 = .ok (.aload_n 0, 1) := by decide +kernel
theorem dL_law_473 : decode cL_law 473 = .ok (.iload_n 3, 1) := by decide +kernel
theorem dL_law_474 : decode cL_law 474 = .ok (.iconst 1, 1) := by decide +kernel
theorem dL_law_475 : decode cL_law 475 = .ok (.iadd, 1) := by decide +kernel
theorem dL_law_476 : decode cL_law 476 = .ok (.iaload, 1) := by decide +kernel
theorem dL_law_477 : decode cL_law 477 = .ok (.aload_n 0, 1) := by decide +kernel
theorem dL_law_478 : decode cL_law 478 = .ok (.iload_n 3, 1) := by decide +kernel
theorem dL_law_479 : decode cL_law 479 = .ok (.iconst 2, 1) := by decide +kernel
theorem dL_law_480 : decode cL_law 480 = .ok (.iadd, 1) := by decide +kernel
theorem dL_law_481 : decode cL_law 481 = .ok (.iaload, 1) := by decide +kernel
theorem dL_law_482 : decode cL_law 482 = .ok (.aload_n 0, 1) := by decide +kernel
theorem dL_law_483 : decode cL_law 483 = .ok (.iload_n 3, 1) := by decide +kernel
theorem dL_law_484 : decode cL_law 484 = .ok (.iconst 3, 1) := by decide +kernel
theorem dL_law_485 : decode cL_law 485 = .ok (.iadd, 1) := by decide +kernel
theorem dL_law_486 : decode cL_law 486 = .ok (.iaload, 1) := by decide +kernel
theorem dL_law_487 : decode cL_law 487 = .ok (.invokevirtual 56, 3) := by decide +kernel
theorem dL_law_490 : decode cL_law 490 = .ok (.if_icmp .eq 566, 3) := by decide +kernel
theorem dL_law_493 : decode cL_law 493 = .ok (.iconst 0, 1) := by decide +kernel
theorem dL_law_494 : decode cL_law 494 = .ok (.ireturn, 1) := by decide +kernel
theorem dL_law_495 : decode cL_law 495 = .ok (.aload_n 1, 1) := by decide +kernel
theorem dL_law_496 : decode cL_law 496 = .ok (.aload_n 0, 1) := by decide +kernel
theorem dL_law_497 : decode cL_law 497 = .ok (.iload_n 3, 1) := by decide +kernel
theorem dL_law_498 : decode cL_law 498 = .ok (.iconst 1, 1) := by decide +kernel
theorem dL_law_499 : decode cL_law 499 = .ok (.iadd, 1) := by decide +kernel
theorem dL_law_500 : decode cL_law 500 = .ok (.iaload, 1) := by decide +kernel
theorem dL_law_501 : decode cL_law 501 = .ok (.invokevirtual 57, 3) := by decide +kernel
theorem dL_law_504 : decode cL_law 504 = .ok (.aload_n 2, 1) := by decide +kernel
theorem dL_law_505 : decode cL_law 505 = .ok (.aload_n 0, 1) := by decide +kernel
theorem dL_law_506 : decode cL_law 506 = .ok (.iload_n 3, 1) := by decide +kernel
theorem dL_law_507 : decode cL_law 507 = .ok (.iconst 1, 1) := by decide +kernel
theorem dL_law_508 : decode cL_law 508 = .ok (.iadd, 1) := by decide +kernel
theorem dL_law_509 : decode cL_law 509 = .ok (.iaload, 1) := by decide +kernel
theorem dL_law_510 : decode cL_law 510 = .ok (.invokevirtual 60, 3) := by decide +kernel
theorem dL_law_513 : decode cL_law 513 = .ok (.if_icmp .eq 543, 3) := by decide +kernel
theorem dL_law_516 : decode cL_law 516 = .ok (.iconst 0, 1) := by decide +kernel
theorem dL_law_517 : decode cL_law 517 = .ok (.ireturn, 1) := by decide +kernel
theorem dL_law_518 : decode cL_law 518 = .ok (.aload_n 1, 1) := by decide +kernel
theorem dL_law_519 : decode cL_law 519 = .ok (.aload_n 0, 1) := by decide +kernel
theorem dL_law_520 : decode cL_law 520 = .ok (.iload_n 3, 1) := by decide +kernel
theorem dL_law_521 : decode cL_law 521 = .ok (.iconst 1, 1) := by decide +kernel
theorem dL_law_522 : decode cL_law 522 = .ok (.iadd, 1) := by decide +kernel
theorem dL_law_523 : decode cL_law 523 = .ok (.iaload, 1) := by decide +kernel
theorem dL_law_524 : decode cL_law 524 = .ok (.invokevirtual 61, 3) := by decide +kernel
theorem dL_law_527 : decode cL_law 527 = .ok (.aload_n 2, 1) := by decide +kernel
theorem dL_law_528 : decode cL_law 528 = .ok (.aload_n 0, 1) := by decide +kernel
theorem dL_law_529 : decode cL_law 529 = .ok (.iload_n 3, 1) := by decide +kernel
theorem dL_law_530 : decode cL_law 530 = .ok (.iconst 1, 1) := by decide +kernel
theorem dL_law_531 : decode cL_law 531 = .ok (.iadd, 1) := by decide +kernel
theorem dL_law_532 : decode cL_law 532 = .ok (.iaload, 1) := by decide +kernel
theorem dL_law_533 : decode cL_law 533 = .ok (.invokevirtual 65, 3) := by decide +kernel
theorem dL_law_536 : decode cL_law 536 = .ok (.lcmp, 1) := by decide +kernel
theorem dL_law_537 : decode cL_law 537 = .ok (.ifCond .eq 519, 3) := by decide +kernel
theorem dL_law_540 : decode cL_law 540 = .ok (.iconst 0, 1) := by decide +kernel
theorem dL_law_541 : decode cL_law 541 = .ok (.ireturn, 1) := by decide +kernel
theorem dL_law_542 : decode cL_law 542 = .ok (.aload_n 1, 1) := by decide +kernel
theorem dL_law_543 : decode cL_law 543 = .ok (.aload_n 0, 1) := by decide +kernel
theorem dL_law_544 : decode cL_law 544 = .ok (.iload_n 3, 1) := by decide +kernel
theorem dL_law_545 : decode cL_law 545 = .ok (.iconst 1, 1) := by decide +kernel
theorem dL_law_546 : decode cL_law 546 = .ok (.iadd, 1) := by decide +kernel
theorem dL_law_547 : decode cL_law 547 = .ok (.iaload, 1) := by decide +kernel
theorem dL_law_548 : decode cL_law 548 = .ok (.aload_n 0, 1) := by decide +kernel
theorem dL_law_549 : decode cL_law 549 = .ok (.iload_n 3, 1) := by decide +kernel
theorem dL_law_550 : decode cL_law 550 = .ok (.iconst 2, 1) := by decide +kernel
theorem dL_law_551 : decode cL_law 551 = .ok (.iadd, 1) := by decide +kernel
theorem dL_law_552 : decode cL_law 552 = .ok (.iaload, 1) := by decide +kernel
theorem dL_law_553 : decode cL_law 553 = .ok (.invokevirtual 66, 3) := by decide +kernel
theorem dL_law_556 : decode cL_law 556 = .ok (.aload_n 2, 1) := by decide +kernel
theorem dL_law_557 : decode cL_law 557 = .ok (.aload_n 0, 1) := by decide +kernel
theorem dL_law_558 : decode cL_law 558 = .ok (.iload_n 3, 1) := by decide +kernel
theorem dL_law_559 : decode cL_law 559 = .ok (.iconst 1, 1) := by decide +kernel
theorem dL_law_560 : decode cL_law 560 = .ok (.iadd, 1) := by decide +kernel
theorem dL_law_561 : decode cL_law 561 = .ok (.iaload, 1) := by decide +kernel
theorem dL_law_562 : decode cL_law 562 = .ok (.aload_n 0, 1) := by decide +kernel
theorem dL_law_563 : decode cL_law 563 = .ok (.iload_n 3, 1) := by decide +kernel
theorem dL_law_564 : decode cL_law 564 = .ok (.iconst 2, 1) := by decide +kernel
theorem dL_law_565 : decode cL_law 565 = .ok (.iadd, 1) := by decide +kernel
theorem dL_law_566 : decode cL_law 566 = .ok (.iaload, 1) := by decide +kernel
theorem dL_law_567 : decode cL_law 567 = .ok (.invokevirtual 69, 3) := by decide +kernel
theorem dL_law_570 : decode cL_law 570 = .ok (.if_icmp .eq 486, 3) := by decide +kernel
theorem dL_law_573 : decode cL_law 573 = .ok (.iconst 0, 1) := by decide +kernel
theorem dL_law_574 : decode cL_law 574 = .ok (.ireturn, 1) := by decide +kernel
theorem dL_law_575 : decode cL_law 575 = .ok (.aload_n 1, 1) := by decide +kernel
theorem dL_law_576 : decode cL_law 576 = .ok (.aload_n 0, 1) := by decide +kernel
theorem dL_law_577 : decode cL_law 577 = .ok (.iload_n 3, 1) := by decide +kernel
theorem dL_law_578 : decode cL_law 578 = .ok (.iconst 1, 1) := by decide +kernel
theorem dL_law_579 : decode cL_law 579 = .ok (.iadd, 1) := by decide +kernel
theorem dL_law_580 : decode cL_law 580 = .ok (.iaload, 1) := by decide +kernel
theorem dL_law_581 : decode cL_law 581 = .ok (.aload_n 0, 1) := by decide +kernel
theorem dL_law_582 : decode cL_law 582 = .ok (.iload_n 3, 1) := by decide +kernel
theorem dL_law_583 : decode cL_law 583 = .ok (.iconst 2, 1) := by decide +kernel
theorem dL_law_584 : decode cL_law 584 = .ok (.iadd, 1) := by decide +kernel
theorem dL_law_585 : decode cL_law 585 = .ok (.iaload, 1) := by decide +kernel
theorem dL_law_586 : decode cL_law 586 = .ok (.aload_n 0, 1) := by decide +kernel
theorem dL_law_587 : decode cL_law 587 = .ok (.iload_n 3, 1) := by decide +kernel
theorem dL_law_588 : decode cL_law 588 = .ok (.iconst 3, 1) := by decide +kernel
theorem dL_law_589 : decode cL_law 589 = .ok (.iadd, 1) := by decide +kernel
theorem dL_law_590 : decode cL_law 590 = .ok (.iaload, 1) := by decide +kernel
theorem dL_law_591 : decode cL_law 591 = .ok (.invokevirtual 70, 3) := by decide +kernel
theorem dL_law_594 : decode cL_law 594 = .ok (.aload_n 2, 1) := by decide +kernel
theorem dL_law_595 : decode cL_law 595 = .ok (.aload_n 0, 1) := by decide +kernel
theorem dL_law_596 : decode cL_law 596 = .ok (.iload_n 3, 1) := by decide +kernel
theorem dL_law_597 : decode cL_law 597 = .ok (.iconst 1, 1) := by decide +kernel
theorem dL_law_598 : decode cL_law 598 = .ok (.iadd, 1) := by decide +kernel
theorem dL_law_599 : decode cL_law 599 = .ok (.iaload, 1) := by decide +kernel
theorem dL_law_600 : decode cL_law 600 = .ok (.aload_n 0, 1) := by decide +kernel
theorem dL_law_601 : decode cL_law 601 = .ok (.iload_n 3, 1) := by decide +kernel
theorem dL_law_602 : decode cL_law 602 = .ok (.iconst 2, 1) := by decide +kernel
theorem dL_law_603 : decode cL_law 603 = .ok (.iadd, 1) := by decide +kernel
theorem dL_law_604 : decode cL_law 604 = .ok (.iaload, 1) := by decide +kernel
theorem dL_law_605 : decode cL_law 605 = .ok (.aload_n 0, 1) := by decide +kernel
theorem dL_law_606 : decode cL_law 606 = .ok (.iload_n 3, 1) := by decide +kernel
theorem dL_law_607 : decode cL_law 607 = .ok (.iconst 3, 1) := by decide +kernel
theorem dL_law_608 : decode cL_law 608 = .ok (.iadd, 1) := by decide +kernel
theorem dL_law_609 : decode cL_law 609 = .ok (.iaload, 1) := by decide +kernel
theorem dL_law_610 : decode cL_law 610 = .ok (.invokevirtual 73, 3) := by decide +kernel
theorem dL_law_613 : decode cL_law 613 = .ok (.if_icmp .eq 443, 3) := by decide +kernel
theorem dL_law_616 : decode cL_law 616 = .ok (.iconst 0, 1) := by decide +kernel
theorem dL_law_617 : decode cL_law 617 = .ok (.ireturn, 1) := by decide +kernel
theorem dL_law_618 : decode cL_law 618 = .ok (.aload_n 1, 1) := by decide +kernel
theorem dL_law_619 : decode cL_law 619 = .ok (.aload_n 0, 1) := by decide +kernel
theorem dL_law_620 : decode cL_law 620 = .ok (.iload_n 3, 1) := by decide +kernel
theorem dL_law_621 : decode cL_law 621 = .ok (.iconst 1, 1) := by decide +kernel
theorem dL_law_622 : decode cL_law 622 = .ok (.iadd, 1) := by decide +kernel
theorem dL_law_623 : decode cL_law 623 = .ok (.iaload, 1) := by decide +kernel
theorem dL_law_624 : decode cL_law 624 = .ok (.aload_n 0, 1) := by decide +kernel
theorem dL_law_625 : decode cL_law 625 = .ok (.iload_n 3, 1) := by decide +kernel
theorem dL_law_626 : decode cL_law 626 = .ok (.iconst 2, 1) := by decide +kernel
theorem dL_law_627 : decode cL_law 627 = .ok (.iadd, 1) := by decide +kernel
theorem dL_law_628 : decode cL_law 628 = .ok (.iaload, 1) := by decide +kernel
theorem dL_law_629 : decode cL_law 629 = .ok (.aload_n 0, 1) := by decide +kernel
theorem dL_law_630 : decode cL_law 630 = .ok (.iload_n 3, 1) := by decide +kernel
theorem dL_law_631 : decode cL_law 631 = .ok (.iconst 3, 1) := by decide +kernel
theorem dL_law_632 : decode cL_law 632 = .ok (.iadd, 1) := by decide +kernel
theorem dL_law_633 : decode cL_law 633 = .ok (.iaload, 1) := by decide +kernel
theorem dL_law_634 : decode cL_law 634 = .ok (.invokevirtual 74, 3) := by decide +kernel
theorem dL_law_637 : decode cL_law 637 = .ok (.aload_n 2, 1) := by decide +kernel
theorem dL_law_638 : decode cL_law 638 = .ok (.aload_n 0, 1) := by decide +kernel
theorem dL_law_639 : decode cL_law 639 = .ok (.iload_n 3, 1) := by decide +kernel
theorem dL_law_640 : decode cL_law 640 = .ok (.iconst 1, 1) := by decide +kernel
theorem dL_law_641 : decode cL_law 641 = .ok (.iadd, 1) := by decide +kernel
theorem dL_law_642 : decode cL_law 642 = .ok (.iaload, 1) := by decide +kernel
theorem dL_law_643 : decode cL_law 643 = .ok (.aload_n 0, 1) := by decide +kernel
theorem dL_law_644 : decode cL_law 644 = .ok (.iload_n 3, 1) := by decide +kernel
theorem dL_law_645 : decode cL_law 645 = .ok (.iconst 2, 1) := by decide +kernel
theorem dL_law_646 : decode cL_law 646 = .ok (.iadd, 1) := by decide +kernel
theorem dL_law_647 : decode cL_law 647 = .ok (.iaload, 1) := by decide +kernel
theorem dL_law_648 : decode cL_law 648 = .ok (.aload_n 0, 1) := by decide +kernel
theorem dL_law_649 : decode cL_law 649 = .ok (.iload_n 3, 1) := by decide +kernel
theorem dL_law_650 : decode cL_law 650 = .ok (.iconst 3, 1) := by decide +kernel
theorem dL_law_651 : decode cL_law 651 = .ok (.iadd, 1) := by decide +kernel
theorem dL_law_652 : decode cL_law 652 = .ok (.iaload, 1) := by decide +kernel
theorem dL_law_653 : decode cL_law 653 = .ok (.invokevirtual 77, 3) := by decide +kernel
theorem dL_law_656 : decode cL_law 656 = .ok (.if_icmp .eq 400, 3) := by decide +kernel
theorem dL_law_659 : decode cL_law 659 = .ok (.iconst 0, 1) := by decide +kernel
theorem dL_law_660 : decode cL_law 660 = .ok (.ireturn, 1) := by decide +kernel
theorem dL_law_661 : decode cL_law 661 = .ok (.aload_n 1, 1) := by decide +kernel
theorem dL_law_662 : decode cL_law 662 = .ok (.aload_n 0, 1) := by decide +kernel
theorem dL_law_663 : decode cL_law 663 = .ok (.iload_n 3, 1) := by decide +kernel
theorem dL_law_664 : decode cL_law 664 = .ok (.iconst 1, 1) := by decide +kernel
theorem dL_law_665 : decode cL_law 665 = .ok (.iadd, 1) := by decide +kernel
theorem dL_law_666 : decode cL_law 666 = .ok (.iaload, 1) := by decide +kernel
theorem dL_law_667 : decode cL_law 667 = .ok (.aload_n 0, 1) := by decide +kernel
theorem dL_law_668 : decode cL_law 668 = .ok (.iload_n 3, 1) := by decide +kernel
theorem dL_law_669 : decode cL_law 669 = .ok (.iconst 2, 1) := by decide +kernel
theorem dL_law_670 : decode cL_law 670 = .ok (.iadd, 1) := by decide +kernel
theorem dL_law_671 : decode cL_law 671 = .ok (.iaload, 1) := by decide +kernel
theorem dL_law_672 : decode cL_law 672 = .ok (.aload_n 0, 1) := by decide +kernel
theorem dL_law_673 : decode cL_law 673 = .ok (.iload_n 3, 1) := by decide +kernel
theorem dL_law_674 : decode cL_law 674 = .ok (.iconst 3, 1) := by decide +kernel
theorem dL_law_675 : decode cL_law 675 = .ok (.iadd, 1) := by decide +kernel
theorem dL_law_676 : decode cL_law 676 = .ok (.iaload, 1) := by decide +kernel
theorem dL_law_677 : decode cL_law 677 = .ok (.invokevirtual 78, 3) := by decide +kernel
theorem dL_law_680 : decode cL_law 680 = .ok (.aload_n 2, 1) := by decide +kernel
theorem dL_law_681 : decode cL_law 681 = .ok (.aload_n 0, 1) := by decide +kernel
theorem dL_law_682 : decode cL_law 682 = .ok (.iload_n 3, 1) := by decide +kernel
theorem dL_law_683 : decode cL_law 683 = .ok (.iconst 1, 1) := by decide +kernel
theorem dL_law_684 : decode cL_law 684 = .ok (.iadd, 1) := by decide +kernel
theorem dL_law_685 : decode cL_law 685 = .ok (.iaload, 1) := by decide +kernel
theorem dL_law_686 : decode cL_law 686 = .ok (.aload_n 0, 1) := by decide +kernel
theorem dL_law_687 : decode cL_law 687 = .ok (.iload_n 3, 1) := by decide +kernel
theorem dL_law_688 : decode cL_law 688 = .ok (.iconst 2, 1) := by decide +kernel
theorem dL_law_689 : decode cL_law 689 = .ok (.iadd, 1) := by decide +kernel
theorem dL_law_690 : decode cL_law 690 = .ok (.iaload, 1) := by decide +kernel
theorem dL_law_691 : decode cL_law 691 = .ok (.aload_n 0, 1) := by decide +kernel
theorem dL_law_692 : decode cL_law 692 = .ok (.iload_n 3, 1) := by decide +kernel
theorem dL_law_693 : decode cL_law 693 = .ok (.iconst 3, 1) := by decide +kernel
theorem dL_law_694 : decode cL_law 694 = .ok (.iadd, 1) := by decide +kernel
theorem dL_law_695 : decode cL_law 695 = .ok (.iaload, 1) := by decide +kernel
theorem dL_law_696 : decode cL_law 696 = .ok (.invokevirtual 82, 3) := by decide +kernel
theorem dL_law_699 : decode cL_law 699 = .ok (.lcmp, 1) := by decide +kernel
theorem dL_law_700 : decode cL_law 700 = .ok (.ifCond .eq 356, 3) := by decide +kernel
theorem dL_law_703 : decode cL_law 703 = .ok (.iconst 0, 1) := by decide +kernel
theorem dL_law_704 : decode cL_law 704 = .ok (.ireturn, 1) := by decide +kernel
theorem dL_law_705 : decode cL_law 705 = .ok (.aload_n 1, 1) := by decide +kernel
theorem dL_law_706 : decode cL_law 706 = .ok (.aload_n 0, 1) := by decide +kernel
theorem dL_law_707 : decode cL_law 707 = .ok (.iload_n 3, 1) := by decide +kernel
theorem dL_law_708 : decode cL_law 708 = .ok (.iconst 1, 1) := by decide +kernel
theorem dL_law_709 : decode cL_law 709 = .ok (.iadd, 1) := by decide +kernel
theorem dL_law_710 : decode cL_law 710 = .ok (.iaload, 1) := by decide +kernel
theorem dL_law_711 : decode cL_law 711 = .ok (.aload_n 0, 1) := by decide +kernel
theorem dL_law_712 : decode cL_law 712 = .ok (.iload_n 3, 1) := by decide +kernel
theorem dL_law_713 : decode cL_law 713 = .ok (.iconst 2, 1) := by decide +kernel
theorem dL_law_714 : decode cL_law 714 = .ok (.iadd, 1) := by decide +kernel
theorem dL_law_715 : decode cL_law 715 = .ok (.iaload, 1) := by decide +kernel
theorem dL_law_716 : decode cL_law 716 = .ok (.aload_n 0, 1) := by decide +kernel
theorem dL_law_717 : decode cL_law 717 = .ok (.iload_n 3, 1) := by decide +kernel
theorem dL_law_718 : decode cL_law 718 = .ok (.iconst 3, 1) := by decide +kernel
theorem dL_law_719 : decode cL_law 719 = .ok (.iadd, 1) := by decide +kernel
theorem dL_law_720 : decode cL_law 720 = .ok (.iaload, 1) := by decide +kernel
theorem dL_law_721 : decode cL_law 721 = .ok (.invokevirtual 83, 3) := by decide +kernel
theorem dL_law_724 : decode cL_law 724 = .ok (.aload_n 2, 1) := by decide +kernel
theorem dL_law_725 : decode cL_law 725 = .ok (.aload_n 0, 1) := by decide +kernel
theorem dL_law_726 : decode cL_law 726 = .ok (.iload_n 3, 1) := by decide +kernel
theorem dL_law_727 : decode cL_law 727 = .ok (.iconst 1, 1) := by decide +kernel
theorem dL_law_728 : decode cL_law 728 = .ok (.iadd, 1) := by decide +kernel
theorem dL_law_729 : decode cL_law 729 = .ok (.iaload, 1) := by decide +kernel
theorem dL_law_730 : decode cL_law 730 = .ok (.aload_n 0, 1) := by decide +kernel
theorem dL_law_731 : decode cL_law 731 = .ok (.iload_n 3, 1) := by decide +kernel
theorem dL_law_732 : decode cL_law 732 = .ok (.iconst 2, 1) := by decide +kernel
theorem dL_law_733 : decode cL_law 733 = .ok (.iadd, 1) := by decide +kernel
theorem dL_law_734 : decode cL_law 734 = .ok (.iaload, 1) := by decide +kernel
theorem dL_law_735 : decode cL_law 735 = .ok (.aload_n 0, 1) := by decide +kernel
theorem dL_law_736 : decode cL_law 736 = .ok (.iload_n 3, 1) := by decide +kernel
theorem dL_law_737 : decode cL_law 737 = .ok (.iconst 3, 1) := by decide +kernel
theorem dL_law_738 : decode cL_law 738 = .ok (.iadd, 1) := by decide +kernel
theorem dL_law_739 : decode cL_law 739 = .ok (.iaload, 1) := by decide +kernel
theorem dL_law_740 : decode cL_law 740 = .ok (.invokevirtual 86, 3) := by decide +kernel
theorem dL_law_743 : decode cL_law 743 = .ok (.lcmp, 1) := by decide +kernel
theorem dL_law_744 : decode cL_law 744 = .ok (.ifCond .eq 312, 3) := by decide +kernel
theorem dL_law_747 : decode cL_law 747 = .ok (.iconst 0, 1) := by decide +kernel
theorem dL_law_748 : decode cL_law 748 = .ok (.ireturn, 1) := by decide +kernel
theorem dL_law_749 : decode cL_law 749 = .ok (.aload_n 1, 1) := by decide +kernel
theorem dL_law_750 : decode cL_law 750 = .ok (.aload_n 0, 1) := by decide +kernel
theorem dL_law_751 : decode cL_law 751 = .ok (.iload_n 3, 1) := by decide +kernel
theorem dL_law_752 : decode cL_law 752 = .ok (.iconst 1, 1) := by decide +kernel
theorem dL_law_753 : decode cL_law 753 = .ok (.iadd, 1) := by decide +kernel
theorem dL_law_754 : decode cL_law 754 = .ok (.iaload, 1) := by decide +kernel
theorem dL_law_755 : decode cL_law 755 = .ok (.invokevirtual 87, 3) := by decide +kernel
theorem dL_law_758 : decode cL_law 758 = .ok (.aload_n 2, 1) := by decide +kernel
theorem dL_law_759 : decode cL_law 759 = .ok (.aload_n 0, 1) := by decide +kernel
theorem dL_law_760 : decode cL_law 760 = .ok (.iload_n 3, 1) := by decide +kernel
theorem dL_law_761 : decode cL_law 761 = .ok (.iconst 1, 1) := by decide +kernel
theorem dL_law_762 : decode cL_law 762 = .ok (.iadd, 1) := by decide +kernel
theorem dL_law_763 : decode cL_law 763 = .ok (.iaload, 1) := by decide +kernel
theorem dL_law_764 : decode cL_law 764 = .ok (.invokevirtual 90, 3) := by decide +kernel
theorem dL_law_767 : decode cL_law 767 = .ok (.if_icmp .eq 289, 3) := by decide +kernel
theorem dL_law_770 : decode cL_law 770 = .ok (.iconst 0, 1) := by decide +kernel
theorem dL_law_771 : decode cL_law 771 = .ok (.ireturn, 1) := by decide +kernel
theorem dL_law_772 : decode cL_law 772 = .ok (.aload_n 1, 1) := by decide +kernel
theorem dL_law_773 : decode cL_law 773 = .ok (.invokevirtual 91, 3) := by decide +kernel
theorem dL_law_776 : decode cL_law 776 = .ok (.aload_n 2, 1) := by decide +kernel
theorem dL_law_777 : decode cL_law 777 = .ok (.invokevirtual 94, 3) := by decide +kernel
theorem dL_law_780 : decode cL_law 780 = .ok (.if_icmp .eq 276, 3) := by decide +kernel
theorem dL_law_783 : decode cL_law 783 = .ok (.iconst 0, 1) := by decide +kernel
theorem dL_law_784 : decode cL_law 784 = .ok (.ireturn, 1) := by decide +kernel
theorem dL_law_785 : decode cL_law 785 = .ok (.aload_n 1, 1) := by decide +kernel
theorem dL_law_786 : decode cL_law 786 = .ok (.invokevirtual 95, 3) := by decide +kernel
theorem dL_law_789 : decode cL_law 789 = .ok (.aload_n 2, 1) := by decide +kernel
theorem dL_law_790 : decode cL_law 790 = .ok (.invokevirtual 98, 3) := by decide +kernel
theorem dL_law_793 : decode cL_law 793 = .ok (.if_icmp .eq 263, 3) := by decide +kernel
theorem dL_law_796 : decode cL_law 796 = .ok (.iconst 0, 1) := by decide +kernel
theorem dL_law_797 : decode cL_law 797 = .ok (.ireturn, 1) := by decide +kernel
theorem dL_law_798 : decode cL_law 798 = .ok (.aload_n 1, 1) := by decide +kernel
theorem dL_law_799 : decode cL_law 799 = .ok (.aload_n 0, 1) := by decide +kernel
theorem dL_law_800 : decode cL_law 800 = .ok (.iload_n 3, 1) := by decide +kernel
theorem dL_law_801 : decode cL_law 801 = .ok (.iconst 1, 1) := by decide +kernel
theorem dL_law_802 : decode cL_law 802 = .ok (.iadd, 1) := by decide +kernel
theorem dL_law_803 : decode cL_law 803 = .ok (.iaload, 1) := by decide +kernel
theorem dL_law_804 : decode cL_law 804 = .ok (.invokevirtual 99, 3) := by decide +kernel
theorem dL_law_807 : decode cL_law 807 = .ok (.aload_n 2, 1) := by decide +kernel
theorem dL_law_808 : decode cL_law 808 = .ok (.aload_n 0, 1) := by decide +kernel
theorem dL_law_809 : decode cL_law 809 = .ok (.iload_n 3, 1) := by decide +kernel
theorem dL_law_810 : decode cL_law 810 = .ok (.iconst 1, 1) := by decide +kernel
theorem dL_law_811 : decode cL_law 811 = .ok (.iadd, 1) := by decide +kernel
theorem dL_law_812 : decode cL_law 812 = .ok (.iaload, 1) := by decide +kernel
theorem dL_law_813 : decode cL_law 813 = .ok (.invokevirtual 102, 3) := by decide +kernel
theorem dL_law_816 : decode cL_law 816 = .ok (.if_icmp .eq 240, 3) := by decide +kernel
theorem dL_law_819 : decode cL_law 819 = .ok (.iconst 0, 1) := by decide +kernel
theorem dL_law_820 : decode cL_law 820 = .ok (.ireturn, 1) := by decide +kernel
theorem dL_law_821 : decode cL_law 821 = .ok (.aload_n 1, 1) := by decide +kernel
theorem dL_law_822 : decode cL_law 822 = .ok (.aload_n 0, 1) := by decide +kernel
theorem dL_law_823 : decode cL_law 823 = .ok (.iload_n 3, 1) := by decide +kernel
theorem dL_law_824 : decode cL_law 824 = .ok (.iconst 1, 1) := by decide +kernel
theorem dL_law_825 : decode cL_law 825 = .ok (.iadd, 1) := by decide +kernel
theorem dL_law_826 : decode cL_law 826 = .ok (.iaload, 1) := by decide +kernel
theorem dL_law_827 : decode cL_law 827 = .ok (.aload_n 0, 1) := by decide +kernel
theorem dL_law_828 : decode cL_law 828 = .ok (.iload_n 3, 1) := by decide +kernel
theorem dL_law_829 : decode cL_law 829 = .ok (.iconst 2, 1) := by decide +kernel
theorem dL_law_830 : decode cL_law 830 = .ok (.iadd, 1) := by decide +kernel
theorem dL_law_831 : decode cL_law 831 = .ok (.iaload, 1) := by decide +kernel
theorem dL_law_832 : decode cL_law 832 = .ok (.aload_n 0, 1) := by decide +kernel
theorem dL_law_833 : decode cL_law 833 = .ok (.iload_n 3, 1) := by decide +kernel
theorem dL_law_834 : decode cL_law 834 = .ok (.iconst 3, 1) := by decide +kernel
theorem dL_law_835 : decode cL_law 835 = .ok (.iadd, 1) := by decide +kernel
theorem dL_law_836 : decode cL_law 836 = .ok (.iaload, 1) := by decide +kernel
theorem dL_law_837 : decode cL_law 837 = .ok (.invokevirtual 103, 3) := by decide +kernel
theorem dL_law_840 : decode cL_law 840 = .ok (.aload_n 2, 1) := by decide +kernel
theorem dL_law_841 : decode cL_law 841 = .ok (.aload_n 0, 1) := by decide +kernel
theorem dL_law_842 : decode cL_law 842 = .ok (.iload_n 3, 1) := by decide +kernel
theorem dL_law_843 : decode cL_law 843 = .ok (.iconst 1, 1) := by decide +kernel
theorem dL_law_844 : decode cL_law 844 = .ok (.iadd, 1) := by decide +kernel
theorem dL_law_845 : decode cL_law 845 = .ok (.iaload, 1) := by decide +kernel
theorem dL_law_846 : decode cL_law 846 = .ok (.aload_n 0, 1) := by decide +kernel
theorem dL_law_847 : decode cL_law 847 = .ok (.iload_n 3, 1) := by decide +kernel
theorem dL_law_848 : decode cL_law 848 = .ok (.iconst 2, 1) := by decide +kernel
theorem dL_law_849 : decode cL_law 849 = .ok (.iadd, 1) := by decide +kernel
theorem dL_law_850 : decode cL_law 850 = .ok (.iaload, 1) := by decide +kernel
theorem dL_law_851 : decode cL_law 851 = .ok (.aload_n 0, 1) := by decide +kernel
theorem dL_law_852 : decode cL_law 852 = .ok (.iload_n 3, 1) := by decide +kernel
theorem dL_law_853 : decode cL_law 853 = .ok (.iconst 3, 1) := by decide +kernel
theorem dL_law_854 : decode cL_law 854 = .ok (.iadd, 1) := by decide +kernel
theorem dL_law_855 : decode cL_law 855 = .ok (.iaload, 1) := by decide +kernel
theorem dL_law_856 : decode cL_law 856 = .ok (.invokevirtual 106, 3) := by decide +kernel
theorem dL_law_859 : decode cL_law 859 = .ok (.if_icmp .eq 197, 3) := by decide +kernel
theorem dL_law_862 : decode cL_law 862 = .ok (.iconst 0, 1) := by decide +kernel
theorem dL_law_863 : decode cL_law 863 = .ok (.ireturn, 1) := by decide +kernel
theorem dL_law_864 : decode cL_law 864 = .ok (.aload_n 1, 1) := by decide +kernel
theorem dL_law_865 : decode cL_law 865 = .ok (.aload_n 0, 1) := by decide +kernel
theorem dL_law_866 : decode cL_law 866 = .ok (.iload_n 3, 1) := by decide +kernel
theorem dL_law_867 : decode cL_law 867 = .ok (.iconst 1, 1) := by decide +kernel
theorem dL_law_868 : decode cL_law 868 = .ok (.iadd, 1) := by decide +kernel
theorem dL_law_869 : decode cL_law 869 = .ok (.iaload, 1) := by decide +kernel
theorem dL_law_870 : decode cL_law 870 = .ok (.aload_n 0, 1) := by decide +kernel
theorem dL_law_871 : decode cL_law 871 = .ok (.iload_n 3, 1) := by decide +kernel
theorem dL_law_872 : decode cL_law 872 = .ok (.iconst 2, 1) := by decide +kernel
theorem dL_law_873 : decode cL_law 873 = .ok (.iadd, 1) := by decide +kernel
theorem dL_law_874 : decode cL_law 874 = .ok (.iaload, 1) := by decide +kernel
theorem dL_law_875 : decode cL_law 875 = .ok (.aload_n 0, 1) := by decide +kernel
theorem dL_law_876 : decode cL_law 876 = .ok (.iload_n 3, 1) := by decide +kernel
theorem dL_law_877 : decode cL_law 877 = .ok (.iconst 3, 1) := by decide +kernel
theorem dL_law_878 : decode cL_law 878 = .ok (.iadd, 1) := by decide +kernel
theorem dL_law_879 : decode cL_law 879 = .ok (.iaload, 1) := by decide +kernel
theorem dL_law_880 : decode cL_law 880 = .ok (.invokevirtual 107, 3) := by decide +kernel
theorem dL_law_883 : decode cL_law 883 = .ok (.aload_n 2, 1) := by decide +kernel
theorem dL_law_884 : decode cL_law 884 = .ok (.aload_n 0, 1) := by decide +kernel
theorem dL_law_885 : decode cL_law 885 = .ok (.iload_n 3, 1) := by decide +kernel
theorem dL_law_886 : decode cL_law 886 = .ok (.iconst 1, 1) := by decide +kernel
theorem dL_law_887 : decode cL_law 887 = .ok (.iadd, 1) := by decide +kernel
theorem dL_law_888 : decode cL_law 888 = .ok (.iaload, 1) := by decide +kernel
theorem dL_law_889 : decode cL_law 889 = .ok (.aload_n 0, 1) := by decide +kernel
theorem dL_law_890 : decode cL_law 890 = .ok (.iload_n 3, 1) := by decide +kernel
theorem dL_law_891 : decode cL_law 891 = .ok (.iconst 2, 1) := by decide +kernel
theorem dL_law_892 : decode cL_law 892 = .ok (.iadd, 1) := by decide +kernel
theorem dL_law_893 : decode cL_law 893 = .ok (.iaload, 1) := by decide +kernel
theorem dL_law_894 : decode cL_law 894 = .ok (.aload_n 0, 1) := by decide +kernel
theorem dL_law_895 : decode cL_law 895 = .ok (.iload_n 3, 1) := by decide +kernel
theorem dL_law_896 : decode cL_law 896 = .ok (.iconst 3, 1) := by decide +kernel
theorem dL_law_897 : decode cL_law 897 = .ok (.iadd, 1) := by decide +kernel
theorem dL_law_898 : decode cL_law 898 = .ok (.iaload, 1) := by decide +kernel
theorem dL_law_899 : decode cL_law 899 = .ok (.invokevirtual 110, 3) := by decide +kernel
theorem dL_law_902 : decode cL_law 902 = .ok (.if_icmp .eq 154, 3) := by decide +kernel
theorem dL_law_905 : decode cL_law 905 = .ok (.iconst 0, 1) := by decide +kernel
theorem dL_law_906 : decode cL_law 906 = .ok (.ireturn, 1) := by decide +kernel
theorem dL_law_907 : decode cL_law 907 = .ok (.aload_n 1, 1) := by decide +kernel
theorem dL_law_908 : decode cL_law 908 = .ok (.aload_n 0, 1) := by decide +kernel
theorem dL_law_909 : decode cL_law 909 = .ok (.iload_n 3, 1) := by decide +kernel
theorem dL_law_910 : decode cL_law 910 = .ok (.iconst 1, 1) := by decide +kernel
theorem dL_law_911 : decode cL_law 911 = .ok (.iadd, 1) := by decide +kernel
theorem dL_law_912 : decode cL_law 912 = .ok (.iaload, 1) := by decide +kernel
theorem dL_law_913 : decode cL_law 913 = .ok (.aload_n 0, 1) := by decide +kernel
theorem dL_law_914 : decode cL_law 914 = .ok (.iload_n 3, 1) := by decide +kernel
theorem dL_law_915 : decode cL_law 915 = .ok (.iconst 2, 1) := by decide +kernel
theorem dL_law_916 : decode cL_law 916 = .ok (.iadd, 1) := by decide +kernel
theorem dL_law_917 : decode cL_law 917 = .ok (.iaload, 1) := by decide +kernel
theorem dL_law_918 : decode cL_law 918 = .ok (.aload_n 0, 1) := by decide +kernel
theorem dL_law_919 : decode cL_law 919 = .ok (.iload_n 3, 1) := by decide +kernel
theorem dL_law_920 : decode cL_law 920 = .ok (.iconst 3, 1) := by decide +kernel
theorem dL_law_921 : decode cL_law 921 = .ok (.iadd, 1) := by decide +kernel
theorem dL_law_922 : decode cL_law 922 = .ok (.iaload, 1) := by decide +kernel
theorem dL_law_923 : decode cL_law 923 = .ok (.aload_n 0, 1) := by decide +kernel
theorem dL_law_924 : decode cL_law 924 = .ok (.iload_n 3, 1) := by decide +kernel
theorem dL_law_925 : decode cL_law 925 = .ok (.iconst 4, 1) := by decide +kernel
theorem dL_law_926 : decode cL_law 926 = .ok (.iadd, 1) := by decide +kernel
theorem dL_law_927 : decode cL_law 927 = .ok (.iaload, 1) := by decide +kernel
theorem dL_law_928 : decode cL_law 928 = .ok (.aload_n 0, 1) := by decide +kernel
theorem dL_law_929 : decode cL_law 929 = .ok (.iload_n 3, 1) := by decide +kernel
theorem dL_law_930 : decode cL_law 930 = .ok (.iconst 5, 1) := by decide +kernel
theorem dL_law_931 : decode cL_law 931 = .ok (.iadd, 1) := by decide +kernel
theorem dL_law_932 : decode cL_law 932 = .ok (.iaload, 1) := by decide +kernel
theorem dL_law_933 : decode cL_law 933 = .ok (.invokevirtual 111, 3) := by decide +kernel
theorem dL_law_936 : decode cL_law 936 = .ok (.aload_n 2, 1) := by decide +kernel
theorem dL_law_937 : decode cL_law 937 = .ok (.aload_n 0, 1) := by decide +kernel
theorem dL_law_938 : decode cL_law 938 = .ok (.iload_n 3, 1) := by decide +kernel
theorem dL_law_939 : decode cL_law 939 = .ok (.iconst 1, 1) := by decide +kernel
theorem dL_law_940 : decode cL_law 940 = .ok (.iadd, 1) := by decide +kernel
theorem dL_law_941 : decode cL_law 941 = .ok (.iaload, 1) := by decide +kernel
theorem dL_law_942 : decode cL_law 942 = .ok (.aload_n 0, 1) := by decide +kernel
theorem dL_law_943 : decode cL_law 943 = .ok (.iload_n 3, 1) := by decide +kernel
theorem dL_law_944 : decode cL_law 944 = .ok (.iconst 2, 1) := by decide +kernel
theorem dL_law_945 : decode cL_law 945 = .ok (.iadd, 1) := by decide +kernel
theorem dL_law_946 : decode cL_law 946 = .ok (.iaload, 1) := by decide +kernel
theorem dL_law_947 : decode cL_law 947 = .ok (.aload_n 0, 1) := by decide +kernel
theorem dL_law_948 : decode cL_law 948 = .ok (.iload_n 3, 1) := by decide +kernel
theorem dL_law_949 : decode cL_law 949 = .ok (.iconst 3, 1) := by decide +kernel
theorem dL_law_950 : decode cL_law 950 = .ok (.iadd, 1) := by decide +kernel
theorem dL_law_951 : decode cL_law 951 = .ok (.iaload, 1) := by decide +kernel
theorem dL_law_952 : decode cL_law 952 = .ok (.aload_n 0, 1) := by decide +kernel
theorem dL_law_953 : decode cL_law 953 = .ok (.iload_n 3, 1) := by decide +kernel
theorem dL_law_954 : decode cL_law 954 = .ok (.iconst 4, 1) := by decide +kernel
theorem dL_law_955 : decode cL_law 955 = .ok (.iadd, 1) := by decide +kernel
theorem dL_law_956 : decode cL_law 956 = .ok (.iaload, 1) := by decide +kernel
theorem dL_law_957 : decode cL_law 957 = .ok (.aload_n 0, 1) := by decide +kernel
theorem dL_law_958 : decode cL_law 958 = .ok (.iload_n 3, 1) := by decide +kernel
theorem dL_law_959 : decode cL_law 959 = .ok (.iconst 5, 1) := by decide +kernel
theorem dL_law_960 : decode cL_law 960 = .ok (.iadd, 1) := by decide +kernel
theorem dL_law_961 : decode cL_law 961 = .ok (.iaload, 1) := by decide +kernel
theorem dL_law_962 : decode cL_law 962 = .ok (.invokevirtual 115, 3) := by decide +kernel
theorem dL_law_965 : decode cL_law 965 = .ok (.if_icmp .eq 91, 3) := by decide +kernel
theorem dL_law_968 : decode cL_law 968 = .ok (.iconst 0, 1) := by decide +kernel
theorem dL_law_969 : decode cL_law 969 = .ok (.ireturn, 1) := by decide +kernel
theorem dL_law_970 : decode cL_law 970 = .ok (.aload_n 1, 1) := by decide +kernel
theorem dL_law_971 : decode cL_law 971 = .ok (.aload_n 0, 1) := by decide +kernel
theorem dL_law_972 : decode cL_law 972 = .ok (.iload_n 3, 1) := by decide +kernel
theorem dL_law_973 : decode cL_law 973 = .ok (.iconst 1, 1) := by decide +kernel
theorem dL_law_974 : decode cL_law 974 = .ok (.iadd, 1) := by decide +kernel
theorem dL_law_975 : decode cL_law 975 = .ok (.iaload, 1) := by decide +kernel
theorem dL_law_976 : decode cL_law 976 = .ok (.aload_n 0, 1) := by decide +kernel
theorem dL_law_977 : decode cL_law 977 = .ok (.iload_n 3, 1) := by decide +kernel
theorem dL_law_978 : decode cL_law 978 = .ok (.iconst 2, 1) := by decide +kernel
theorem dL_law_979 : decode cL_law 979 = .ok (.iadd, 1) := by decide +kernel
theorem dL_law_980 : decode cL_law 980 = .ok (.iaload, 1) := by decide +kernel
theorem dL_law_981 : decode cL_law 981 = .ok (.aload_n 0, 1) := by decide +kernel
theorem dL_law_982 : decode cL_law 982 = .ok (.iload_n 3, 1) := by decide +kernel
theorem dL_law_983 : decode cL_law 983 = .ok (.iconst 3, 1) := by decide +kernel
theorem dL_law_984 : decode cL_law 984 = .ok (.iadd, 1) := by decide +kernel
theorem dL_law_985 : decode cL_law 985 = .ok (.iaload, 1) := by decide +kernel
theorem dL_law_986 : decode cL_law 986 = .ok (.aload_n 0, 1) := by decide +kernel
theorem dL_law_987 : decode cL_law 987 = .ok (.iload_n 3, 1) := by decide +kernel
theorem dL_law_988 : decode cL_law 988 = .ok (.iconst 4, 1) := by decide +kernel
theorem dL_law_989 : decode cL_law 989 = .ok (.iadd, 1) := by decide +kernel
theorem dL_law_990 : decode cL_law 990 = .ok (.iaload, 1) := by decide +kernel
theorem dL_law_991 : decode cL_law 991 = .ok (.invokevirtual 116, 3) := by decide +kernel
theorem dL_law_994 : decode cL_law 994 = .ok (.aload_n 2, 1) := by decide +kernel
theorem dL_law_995 : decode cL_law 995 = .ok (.aload_n 0, 1) := by decide +kernel
theorem dL_law_996 : decode cL_law 996 = .ok (.iload_n 3, 1) := by decide +kernel
theorem dL_law_997 : decode cL_law 997 = .ok (.iconst 1, 1) := by decide +kernel
theorem dL_law_998 : decode cL_law 998 = .ok (.iadd, 1) := by decide +kernel
theorem dL_law_999 : decode cL_law 999 = .ok (.iaload, 1) := by decide +kernel
theorem dL_law_1000 : decode cL_law 1000 = .ok (.aload_n 0, 1) := by decide +kernel
theorem dL_law_1001 : decode cL_law 1001 = .ok (.iload_n 3, 1) := by decide +kernel
theorem dL_law_1002 : decode cL_law 1002 = .ok (.iconst 2, 1) := by decide +kernel
theorem dL_law_1003 : decode cL_law 1003 = .ok (.iadd, 1) := by decide +kernel
theorem dL_law_1004 : decode cL_law 1004 = .ok (.iaload, 1) := by decide +kernel
theorem dL_law_1005 : decode cL_law 1005 = .ok (.aload_n 0, 1) := by decide +kernel
theorem dL_law_1006 : decode cL_law 1006 = .ok (.iload_n 3, 1) := by decide +kernel
theorem dL_law_1007 : decode cL_law 1007 = .ok (.iconst 3, 1) := by decide +kernel
theorem dL_law_1008 : decode cL_law 1008 = .ok (.iadd, 1) := by decide +kernel
theorem dL_law_1009 : decode cL_law 1009 = .ok (.iaload, 1) := by decide +kernel
theorem dL_law_1010 : decode cL_law 1010 = .ok (.aload_n 0, 1) := by decide +kernel
theorem dL_law_1011 : decode cL_law 1011 = .ok (.iload_n 3, 1) := by decide +kernel
theorem dL_law_1012 : decode cL_law 1012 = .ok (.iconst 4, 1) := by decide +kernel
theorem dL_law_1013 : decode cL_law 1013 = .ok (.iadd, 1) := by decide +kernel
theorem dL_law_1014 : decode cL_law 1014 = .ok (.iaload, 1) := by decide +kernel
theorem dL_law_1015 : decode cL_law 1015 = .ok (.invokevirtual 119, 3) := by decide +kernel
theorem dL_law_1018 : decode cL_law 1018 = .ok (.if_icmp .eq 38, 3) := by decide +kernel
theorem dL_law_1021 : decode cL_law 1021 = .ok (.iconst 0, 1) := by decide +kernel
theorem dL_law_1022 : decode cL_law 1022 = .ok (.ireturn, 1) := by decide +kernel
theorem dL_law_1023 : decode cL_law 1023 = .ok (.aload_n 1, 1) := by decide +kernel
theorem dL_law_1024 : decode cL_law 1024 = .ok (.aload_n 0, 1) := by decide +kernel
theorem dL_law_1025 : decode cL_law 1025 = .ok (.iload_n 3, 1) := by decide +kernel
theorem dL_law_1026 : decode cL_law 1026 = .ok (.iconst 1, 1) := by decide +kernel
theorem dL_law_1027 : decode cL_law 1027 = .ok (.iadd, 1) := by decide +kernel
theorem dL_law_1028 : decode cL_law 1028 = .ok (.iaload, 1) := by decide +kernel
theorem dL_law_1029 : decode cL_law 1029 = .ok (.aload_n 0, 1) := by decide +kernel
theorem dL_law_1030 : decode cL_law 1030 = .ok (.iload_n 3, 1) := by decide +kernel
theorem dL_law_1031 : decode cL_law 1031 = .ok (.iconst 2, 1) := by decide +kernel
theorem dL_law_1032 : decode cL_law 1032 = .ok (.iadd, 1) := by decide +kernel
theorem dL_law_1033 : decode cL_law 1033 = .ok (.iaload, 1) := by decide +kernel
theorem dL_law_1034 : decode cL_law 1034 = .ok (.invokevirtual 120, 3) := by decide +kernel
theorem dL_law_1037 : decode cL_law 1037 = .ok (.aload_n 2, 1) := by decide +kernel
theorem dL_law_1038 : decode cL_law 1038 = .ok (.aload_n 0, 1) := by decide +kernel
theorem dL_law_1039 : decode cL_law 1039 = .ok (.iload_n 3, 1) := by decide +kernel
theorem dL_law_1040 : decode cL_law 1040 = .ok (.iconst 1, 1) := by decide +kernel
theorem dL_law_1041 : decode cL_law 1041 = .ok (.iadd, 1) := by decide +kernel
theorem dL_law_1042 : decode cL_law 1042 = .ok (.iaload, 1) := by decide +kernel
theorem dL_law_1043 : decode cL_law 1043 = .ok (.aload_n 0, 1) := by decide +kernel
theorem dL_law_1044 : decode cL_law 1044 = .ok (.iload_n 3, 1) := by decide +kernel
theorem dL_law_1045 : decode cL_law 1045 = .ok (.iconst 2, 1) := by decide +kernel
theorem dL_law_1046 : decode cL_law 1046 = .ok (.iadd, 1) := by decide +kernel
theorem dL_law_1047 : decode cL_law 1047 = .ok (.iaload, 1) := by decide +kernel
theorem dL_law_1048 : decode cL_law 1048 = .ok (.invokevirtual 123, 3) := by decide +kernel
theorem dL_law_1051 : decode cL_law 1051 = .ok (.if_icmp .eq 5, 3) := by decide +kernel
theorem dL_law_1054 : decode cL_law 1054 = .ok (.iconst 0, 1) := by decide +kernel
theorem dL_law_1055 : decode cL_law 1055 = .ok (.ireturn, 1) := by decide +kernel
theorem dL_law_1056 : decode cL_law 1056 = .ok (.iinc 3 6, 3) := by decide +kernel
theorem dL_law_1059 : decode cL_law 1059 = .ok (.goto (-1041), 3) := by decide +kernel
theorem dL_law_1062 : decode cL_law 1062 = .ok (.iconst 1, 1) := by decide +kernel
theorem dL_law_1063 : decode cL_law 1063 = .ok (.ireturn, 1) := by decide +kernel
end
section
def UU : List Cond := lw_tbl.filter goodWord
theorem uu_good : ∀ w ∈ UU, goodWord w = true := fun w h => (List.mem_filter.mp h).2
theorem uu_tbl : ∀ w ∈ UU, w ∈ lw_tbl := fun w h => (List.mem_filter.mp h).1
theorem uu_of {w : Cond} (h : w ∈ tables_1) (g : goodWord w = true) : w ∈ UU := List.mem_filter.mpr ⟨List.mem_append_right _ h, g⟩
theorem uu_ofp {w : Cond} (h : w ∈ k2_sels lw_privs) (g : goodWord w = true) : w ∈ UU := List.mem_filter.mpr ⟨List.mem_append_left _ h, g⟩
theorem tb1 {w : Cond} (h : w ∈ tables_1_1) : w ∈ tables_1 := (List.mem_append_left _ h)
theorem tb2 {w : Cond} (h : w ∈ tables_1_2) : w ∈ tables_1 := (List.mem_append_right _ (List.mem_append_left _ h))
theorem tb3 {w : Cond} (h : w ∈ tables_1_3) : w ∈ tables_1 := (List.mem_append_right _ (List.mem_append_right _ (List.mem_append_left _ h)))
theorem tb4 {w : Cond} (h : w ∈ tables_1_4) : w ∈ tables_1 := (List.mem_append_right _ (List.mem_append_right _ (List.mem_append_right _ (List.mem_append_left _ h))))
theorem tb5 {w : Cond} (h : w ∈ tables_1_5) : w ∈ tables_1 := (List.mem_append_right _ (List.mem_append_right _ (List.mem_append_right _ (List.mem_append_right _ (List.mem_append_left _ h)))))
theorem tb6 {w : Cond} (h : w ∈ tables_1_6) : w ∈ tables_1 := (List.mem_append_right _ (List.mem_append_right _ (List.mem_append_right _ (List.mem_append_right _ (List.mem_append_right _ h)))))
theorem u1_0 : Cond.initialized RL ∈ UU := uu_of (tb1 (List.mem_of_getElem? (i := 0) (by rfl))) (by rfl)
theorem u1_1 : Cond.initialized RX11 ∈ UU := uu_of (tb1 (List.mem_of_getElem? (i := 1) (by rfl))) (by rfl)
theorem u1_2 : Cond.initialized RX4 ∈ UU := uu_of (tb1 (List.mem_of_getElem? (i := 2) (by rfl))) (by rfl)
theorem u1_3 : Cond.initialized RJ7 ∈ UU := uu_of (tb1 (List.mem_of_getElem? (i := 3) (by rfl))) (by rfl)
theorem u1_4 : Cond.initialized RX5 ∈ UU := uu_of (tb1 (List.mem_of_getElem? (i := 4) (by rfl))) (by rfl)
theorem u1_5 : Cond.initialized RX1 ∈ UU := uu_of (tb1 (List.mem_of_getElem? (i := 5) (by rfl))) (by rfl)
theorem u1_6 : Cond.initialized RX6 ∈ UU := uu_of (tb1 (List.mem_of_getElem? (i := 6) (by rfl))) (by rfl)
theorem u1_7 : Cond.initialized RJ0 ∈ UU := uu_of (tb1 (List.mem_of_getElem? (i := 7) (by rfl))) (by rfl)
theorem u1_8 : Cond.initialized RJ1 ∈ UU := uu_of (tb1 (List.mem_of_getElem? (i := 8) (by rfl))) (by rfl)
theorem u1_9 : Cond.initialized RJ3 ∈ UU := uu_of (tb1 (List.mem_of_getElem? (i := 9) (by rfl))) (by rfl)
theorem u1_10 : Cond.initialized RJ2 ∈ UU := uu_of (tb1 (List.mem_of_getElem? (i := 10) (by rfl))) (by rfl)
theorem u1_11 : Cond.initialized RJ9 ∈ UU := uu_of (tb1 (List.mem_of_getElem? (i := 11) (by rfl))) (by rfl)
theorem u1_12 : Cond.initialized RJ11 ∈ UU := uu_of (tb1 (List.mem_of_getElem? (i := 12) (by rfl))) (by rfl)
theorem u1_13 : Cond.initialized RX9 ∈ UU := uu_of (tb1 (List.mem_of_getElem? (i := 13) (by rfl))) (by rfl)
theorem u1_14 : Cond.initialized RJ10 ∈ UU := uu_of (tb1 (List.mem_of_getElem? (i := 14) (by rfl))) (by rfl)
theorem u1_15 : Cond.initialized RX12 ∈ UU := uu_of (tb1 (List.mem_of_getElem? (i := 15) (by rfl))) (by rfl)
theorem u1_16 : Cond.initialized RX7 ∈ UU := uu_of (tb1 (List.mem_of_getElem? (i := 16) (by rfl))) (by rfl)
theorem u1_17 : Cond.initialized RX8 ∈ UU := uu_of (tb1 (List.mem_of_getElem? (i := 17) (by rfl))) (by rfl)
theorem u1_18 : Cond.initialized RX10 ∈ UU := uu_of (tb1 (List.mem_of_getElem? (i := 18) (by rfl))) (by rfl)
theorem u1_19 : Cond.initialized RX3 ∈ UU := uu_of (tb1 (List.mem_of_getElem? (i := 19) (by rfl))) (by rfl)
theorem u1_20 : Cond.initialized RX2 ∈ UU := uu_of (tb1 (List.mem_of_getElem? (i := 20) (by rfl))) (by rfl)
theorem u1_21 : Cond.initialized RX0 ∈ UU := uu_of (tb1 (List.mem_of_getElem? (i := 21) (by rfl))) (by rfl)
theorem u1_22 : Cond.initialized RJ6 ∈ UU := uu_of (tb1 (List.mem_of_getElem? (i := 22) (by rfl))) (by rfl)
theorem u1_23 : Cond.classLink RL 7 RX11 ∈ UU := uu_of (tb1 (List.mem_of_getElem? (i := 23) (by rfl))) (by rfl)
theorem u1_24 : Cond.instantiable RX11 12 ∈ UU := uu_of (tb1 (List.mem_of_getElem? (i := 24) (by rfl))) (by rfl)
theorem u1_25 : Cond.methodLink RL 9 yX11_init ∈ UU := uu_of (tb1 (List.mem_of_getElem? (i := 25) (by rfl))) (by rfl)
theorem u1_26 : Cond.instanceMethod yX11_init ∈ UU := uu_of (tb1 (List.mem_of_getElem? (i := 26) (by rfl))) (by rfl)
theorem u1_27 : Cond.code yX11_init cX11_init 2 none ∈ UU := uu_of (tb1 (List.mem_of_getElem? (i := 27) (by rfl))) (by rfl)
theorem u1_28 : Cond.methodLink RX11 1 ⟨"java/lang/Object", "<init>", "()V"⟩ ∈ UU := uu_of (tb1 (List.mem_of_getElem? (i := 28) (by rfl))) (by rfl)
theorem u1_29 : Cond.instanceMethod ⟨"java/lang/Object", "<init>", "()V"⟩ ∈ UU := uu_of (tb1 (List.mem_of_getElem? (i := 29) (by rfl))) (by rfl)
theorem u1_30 : Cond.code ⟨"java/lang/Object", "<init>", "()V"⟩ object_method_1_code 1 none ∈ UU := uu_of (tb1 (List.mem_of_getElem? (i := 30) (by rfl))) (by rfl)
theorem u1_31 : Cond.classLink RX11 7 RX4 ∈ UU := uu_of (tb1 (List.mem_of_getElem? (i := 31) (by rfl))) (by rfl)
theorem u1_32 : Cond.instantiable RX4 8 ∈ UU := uu_of (tb1 (List.mem_of_getElem? (i := 32) (by rfl))) (by rfl)
theorem u1_33 : Cond.methodLink RX11 9 yX4_init ∈ UU := uu_of (tb1 (List.mem_of_getElem? (i := 33) (by rfl))) (by rfl)
theorem u1_34 : Cond.instanceMethod yX4_init ∈ UU := uu_of (tb1 (List.mem_of_getElem? (i := 34) (by rfl))) (by rfl)
theorem u1_35 : Cond.code yX4_init cX4_init 1 none ∈ UU := uu_of (tb1 (List.mem_of_getElem? (i := 35) (by rfl))) (by rfl)
theorem u1_36 : Cond.methodLink RX4 3 ⟨"java/lang/Object", "<init>", "()V"⟩ ∈ UU := uu_of (tb1 (List.mem_of_getElem? (i := 36) (by rfl))) (by rfl)
theorem u1_37 : Cond.methodLink RX4 37 yJ7_fill_53178 ∈ UU := uu_of (tb1 (List.mem_of_getElem? (i := 37) (by rfl))) (by rfl)
theorem u1_38 : Cond.static yJ7_fill_53178 ∈ UU := uu_of (tb1 (List.mem_of_getElem? (i := 38) (by rfl))) (by rfl)
theorem u1_39 : Cond.code yJ7_fill_53178 cJ7_fill_53178 4 none ∈ UU := uu_of (tb1 (List.mem_of_getElem? (i := 39) (by rfl))) (by rfl)
theorem u1_40 : Cond.fieldLink RX4 9 RX4 "loud" "[I" ∈ UU := uu_of (tb1 (List.mem_of_getElem? (i := 40) (by rfl))) (by rfl)
theorem u1_41 : Cond.fieldLink RX11 98 RX4 "loud" "[I" ∈ UU := uu_of (tb1 (List.mem_of_getElem? (i := 41) (by rfl))) (by rfl)
theorem u1_42 : Cond.fieldLink RX1 154 RX4 "loud" "[I" ∈ UU := uu_of (tb1 (List.mem_of_getElem? (i := 42) (by rfl))) (by rfl)
theorem u1_43 : Cond.fieldLink RX4 15 RX4 "bar" "[I" ∈ UU := uu_of (tb1 (List.mem_of_getElem? (i := 43) (by rfl))) (by rfl)
theorem u1_44 : Cond.fieldLink RX11 106 RX4 "bar" "[I" ∈ UU := uu_of (tb1 (List.mem_of_getElem? (i := 44) (by rfl))) (by rfl)
theorem u1_45 : Cond.fieldLink RX1 109 RX4 "bar" "[I" ∈ UU := uu_of (tb1 (List.mem_of_getElem? (i := 45) (by rfl))) (by rfl)
theorem u1_46 : Cond.fieldLink RX4 18 RX4 "hiss" "[I" ∈ UU := uu_of (tb1 (List.mem_of_getElem? (i := 46) (by rfl))) (by rfl)
theorem u1_47 : Cond.fieldLink RX11 109 RX4 "hiss" "[I" ∈ UU := uu_of (tb1 (List.mem_of_getElem? (i := 47) (by rfl))) (by rfl)
theorem u1_48 : Cond.fieldLink RX1 160 RX4 "hiss" "[I" ∈ UU := uu_of (tb1 (List.mem_of_getElem? (i := 48) (by rfl))) (by rfl)
theorem u1_49 : Cond.fieldLink RX4 21 RX4 "least" "[I" ∈ UU := uu_of (tb1 (List.mem_of_getElem? (i := 49) (by rfl))) (by rfl)
theorem u1_50 : Cond.fieldLink RX11 112 RX4 "least" "[I" ∈ UU := uu_of (tb1 (List.mem_of_getElem? (i := 50) (by rfl))) (by rfl)
theorem u1_51 : Cond.fieldLink RX1 106 RX4 "least" "[I" ∈ UU := uu_of (tb1 (List.mem_of_getElem? (i := 51) (by rfl))) (by rfl)
theorem u1_52 : Cond.fieldLink RX4 24 RX4 "voiceOf" "[I" ∈ UU := uu_of (tb1 (List.mem_of_getElem? (i := 52) (by rfl))) (by rfl)
theorem u1_53 : Cond.fieldLink RX11 129 RX4 "voiceOf" "[I" ∈ UU := uu_of (tb1 (List.mem_of_getElem? (i := 53) (by rfl))) (by rfl)
theorem u1_54 : Cond.fieldLink RX1 85 RX4 "voiceOf" "[I" ∈ UU := uu_of (tb1 (List.mem_of_getElem? (i := 54) (by rfl))) (by rfl)
theorem u1_55 : Cond.fieldLink RX4 27 RX4 "last" "I" ∈ UU := uu_of (tb1 (List.mem_of_getElem? (i := 55) (by rfl))) (by rfl)
theorem u1_56 : Cond.fieldLink RX11 115 RX4 "last" "I" ∈ UU := uu_of (tb1 (List.mem_of_getElem? (i := 56) (by rfl))) (by rfl)
theorem u1_57 : Cond.fieldLink RX1 169 RX4 "last" "I" ∈ UU := uu_of (tb1 (List.mem_of_getElem? (i := 57) (by rfl))) (by rfl)
theorem u1_58 : Cond.fieldLink RX4 31 RX4 "echo" "I" ∈ UU := uu_of (tb1 (List.mem_of_getElem? (i := 58) (by rfl))) (by rfl)
theorem u1_59 : Cond.fieldLink RX11 122 RX4 "echo" "I" ∈ UU := uu_of (tb1 (List.mem_of_getElem? (i := 59) (by rfl))) (by rfl)
theorem u1_60 : Cond.fieldLink RX1 147 RX4 "echo" "I" ∈ UU := uu_of (tb1 (List.mem_of_getElem? (i := 60) (by rfl))) (by rfl)
theorem u1_61 : Cond.fieldLink RX4 34 RX4 "rule" "I" ∈ UU := uu_of (tb1 (List.mem_of_getElem? (i := 61) (by rfl))) (by rfl)
theorem u1_62 : Cond.fieldLink RX11 158 RX4 "rule" "I" ∈ UU := uu_of (tb1 (List.mem_of_getElem? (i := 62) (by rfl))) (by rfl)
theorem u1_79 : Cond.superclass RX4 "java/lang/Object" ∈ UU := uu_of (tb1 (List.mem_of_getElem? (i := 79) (by rfl))) (by rfl)
theorem u1_80 : Cond.arrayClass FieldType.int ∈ UU := uu_of (tb1 (List.mem_of_getElem? (i := 80) (by rfl))) (by rfl)
theorem u1_81 : Cond.classLink RX11 23 RX7 ∈ UU := uu_of (tb1 (List.mem_of_getElem? (i := 81) (by rfl))) (by rfl)
theorem v1_82 : Cond.arrayOver (FieldType.object "NobodyBreathes$Singer") ∈ lw_tbl := List.mem_append_right _ (tb1 (List.mem_of_getElem? (i := 82) (by rfl)))
theorem u1_83 : Cond.classLink RX11 32 RX5 ∈ UU := uu_of (tb1 (List.mem_of_getElem? (i := 83) (by rfl))) (by rfl)
theorem u1_84 : Cond.instantiable RX5 8 ∈ UU := uu_of (tb1 (List.mem_of_getElem? (i := 84) (by rfl))) (by rfl)
theorem v1_85 : Cond.methodLinkNest RX11 34 yX5_init RX11 ∈ lw_tbl := List.mem_append_right _ (tb1 (List.mem_of_getElem? (i := 85) (by rfl)))
theorem u1_86 : Cond.instanceMethod yX5_init ∈ UU := uu_of (tb1 (List.mem_of_getElem? (i := 86) (by rfl))) (by rfl)
theorem u1_87 : Cond.code yX5_init cX5_init 1 none ∈ UU := uu_of (tb1 (List.mem_of_getElem? (i := 87) (by rfl))) (by rfl)
theorem u1_88 : Cond.methodLink RX5 3 ⟨"java/lang/Object", "<init>", "()V"⟩ ∈ UU := uu_of (tb1 (List.mem_of_getElem? (i := 88) (by rfl))) (by rfl)
theorem u1_89 : Cond.fieldLink RX5 9 RX5 "tape" "[C" ∈ UU := uu_of (tb1 (List.mem_of_getElem? (i := 89) (by rfl))) (by rfl)
theorem u1_90 : Cond.fieldLink RX5 15 RX5 "code" "[I" ∈ UU := uu_of (tb1 (List.mem_of_getElem? (i := 90) (by rfl))) (by rfl)
theorem u1_91 : Cond.fieldLink RX5 19 RX5 "size" "I" ∈ UU := uu_of (tb1 (List.mem_of_getElem? (i := 91) (by rfl))) (by rfl)
theorem v1_92 : Cond.fieldLinkNest RX11 154 RX5 "size" "I" RX11 ∈ lw_tbl := List.mem_append_right _ (tb1 (List.mem_of_getElem? (i := 92) (by rfl)))
theorem u1_93 : Cond.fieldLink RX5 23 RX5 "next" "I" ∈ UU := uu_of (tb1 (List.mem_of_getElem? (i := 93) (by rfl))) (by rfl)
theorem v1_94 : Cond.fieldLinkNest RX11 155 RX5 "place" "I" RX11 ∈ lw_tbl := List.mem_append_right _ (tb1 (List.mem_of_getElem? (i := 94) (by rfl)))
theorem u1_95 : Cond.fieldLink RX5 78 RX5 "place" "I" ∈ UU := uu_of (tb1 (List.mem_of_getElem? (i := 95) (by rfl))) (by rfl)
theorem u1_96 : Cond.fieldLink RX5 39 RX5 "token" "I" ∈ UU := uu_of (tb1 (List.mem_of_getElem? (i := 96) (by rfl))) (by rfl)
theorem u1_97 : Cond.fieldLink RX5 75 RX5 "value" "I" ∈ UU := uu_of (tb1 (List.mem_of_getElem? (i := 97) (by rfl))) (by rfl)
theorem u1_98 : Cond.fieldLink RX5 26 RX5 "length" "I" ∈ UU := uu_of (tb1 (List.mem_of_getElem? (i := 98) (by rfl))) (by rfl)
theorem u1_115 : Cond.superclass RX5 "java/lang/Object" ∈ UU := uu_of (tb1 (List.mem_of_getElem? (i := 115) (by rfl))) (by rfl)
theorem u1_116 : Cond.arrayClass FieldType.char ∈ UU := uu_of (tb1 (List.mem_of_getElem? (i := 116) (by rfl))) (by rfl)
theorem u1_117 : Cond.classLink RX11 39 RX9 ∈ UU := uu_of (tb1 (List.mem_of_getElem? (i := 117) (by rfl))) (by rfl)
theorem v1_118 : Cond.arrayOver (FieldType.object "NobodyBreathes$Text") ∈ lw_tbl := List.mem_append_right _ (tb1 (List.mem_of_getElem? (i := 118) (by rfl)))
theorem u1_119 : Cond.classLink RX11 48 RX6 ∈ UU := uu_of (tb1 (List.mem_of_getElem? (i := 119) (by rfl))) (by rfl)
theorem v1_120 : Cond.arrayOver (FieldType.object "NobodyBreathes$Sheet") ∈ lw_tbl := List.mem_append_right _ (tb1 (List.mem_of_getElem? (i := 120) (by rfl)))
theorem u1_121 : Cond.classLink RX11 54 RX1 ∈ UU := uu_of (tb1 (List.mem_of_getElem? (i := 121) (by rfl))) (by rfl)
theorem u1_122 : Cond.instantiable RX1 16 ∈ UU := uu_of (tb1 (List.mem_of_getElem? (i := 122) (by rfl))) (by rfl)
theorem u1_123 : Cond.methodLink RX11 56 yX1_init ∈ UU := uu_of (tb1 (List.mem_of_getElem? (i := 123) (by rfl))) (by rfl)
theorem u1_124 : Cond.instanceMethod yX1_init ∈ UU := uu_of (tb1 (List.mem_of_getElem? (i := 124) (by rfl))) (by rfl)
theorem u1_125 : Cond.code yX1_init cX1_init 3 none ∈ UU := uu_of (tb1 (List.mem_of_getElem? (i := 125) (by rfl))) (by rfl)
theorem u1_126 : Cond.methodLink RX1 3 ⟨"java/lang/Object", "<init>", "()V"⟩ ∈ UU := uu_of (tb1 (List.mem_of_getElem? (i := 126) (by rfl))) (by rfl)
theorem u1_127 : Cond.fieldLink RX1 39 RX1 "piece" "LNobodyBreathes$Piece;" ∈ UU := uu_of (tb1 (List.mem_of_getElem? (i := 127) (by rfl))) (by rfl)
theorem u1_128 : Cond.fieldLink RX1 43 RX1 "choir" "[LNobodyBreathes$Singer;" ∈ UU := uu_of (tb1 (List.mem_of_getElem? (i := 128) (by rfl))) (by rfl)
theorem u1_129 : Cond.fieldLink RX1 11 RX1 "heard" "[I" ∈ UU := uu_of (tb1 (List.mem_of_getElem? (i := 129) (by rfl))) (by rfl)
theorem u1_130 : Cond.fieldLink RX1 17 RX1 "held" "[I" ∈ UU := uu_of (tb1 (List.mem_of_getElem? (i := 130) (by rfl))) (by rfl)
theorem u1_131 : Cond.fieldLink RX1 20 RX1 "silent" "[I" ∈ UU := uu_of (tb1 (List.mem_of_getElem? (i := 131) (by rfl))) (by rfl)
theorem u1_132 : Cond.fieldLink RX1 23 RX1 "often" "[I" ∈ UU := uu_of (tb1 (List.mem_of_getElem? (i := 132) (by rfl))) (by rfl)
theorem v1_133 : Cond.fieldLinkNest RX11 195 RX1 "often" "[I" RX11 ∈ lw_tbl := List.mem_append_right _ (tb1 (List.mem_of_getElem? (i := 133) (by rfl)))
theorem u1_134 : Cond.fieldLink RX1 26 RX1 "plan" "[J" ∈ UU := uu_of (tb1 (List.mem_of_getElem? (i := 134) (by rfl))) (by rfl)
theorem v1_135 : Cond.fieldLinkNest RX11 214 RX1 "plan" "[J" RX11 ∈ lw_tbl := List.mem_append_right _ (tb1 (List.mem_of_getElem? (i := 135) (by rfl)))
theorem u1_136 : Cond.fieldLink RX1 30 RX1 "members" "[I" ∈ UU := uu_of (tb1 (List.mem_of_getElem? (i := 136) (by rfl))) (by rfl)
theorem u1_137 : Cond.fieldLink RX1 33 RX1 "thinFor" "[I" ∈ UU := uu_of (tb1 (List.mem_of_getElem? (i := 137) (by rfl))) (by rfl)
theorem u1_138 : Cond.fieldLink RX1 36 RX1 "worth" "[I" ∈ UU := uu_of (tb1 (List.mem_of_getElem? (i := 138) (by rfl))) (by rfl)
theorem u1_139 : Cond.fieldLink RX1 47 RX1 "way" "I" ∈ UU := uu_of (tb1 (List.mem_of_getElem? (i := 139) (by rfl))) (by rfl)
theorem u1_140 : Cond.fieldLink RX1 51 RX1 "size" "I" ∈ UU := uu_of (tb1 (List.mem_of_getElem? (i := 140) (by rfl))) (by rfl)
theorem u1_141 : Cond.fieldLink RX1 54 RX1 "rule" "LNobodyBreathes$Text;" ∈ UU := uu_of (tb1 (List.mem_of_getElem? (i := 141) (by rfl))) (by rfl)
theorem u1_142 : Cond.fieldLink RX1 90 RX1 "now" "I" ∈ UU := uu_of (tb1 (List.mem_of_getElem? (i := 142) (by rfl))) (by rfl)
theorem v1_143 : Cond.fieldLinkNest RX11 168 RX1 "now" "I" RX11 ∈ lw_tbl := List.mem_append_right _ (tb1 (List.mem_of_getElem? (i := 143) (by rfl)))
theorem u1_144 : Cond.fieldLink RX1 58 RX1 "gone" "I" ∈ UU := uu_of (tb1 (List.mem_of_getElem? (i := 144) (by rfl))) (by rfl)
theorem u1_145 : Cond.fieldLink RX1 61 RX1 "goneFrom" "I" ∈ UU := uu_of (tb1 (List.mem_of_getElem? (i := 145) (by rfl))) (by rfl)
theorem u1_178 : Cond.superclass RX1 "java/lang/Object" ∈ UU := uu_of (tb1 (List.mem_of_getElem? (i := 178) (by rfl))) (by rfl)
theorem u1_179 : Cond.arrayClass FieldType.long ∈ UU := uu_of (tb1 (List.mem_of_getElem? (i := 179) (by rfl))) (by rfl)
theorem u1_180 : Cond.instantiable RX6 3 ∈ UU := uu_of (tb1 (List.mem_of_getElem? (i := 180) (by rfl))) (by rfl)
theorem v1_181 : Cond.methodLinkNest RX11 70 yX6_init RX11 ∈ lw_tbl := List.mem_append_right _ (tb1 (List.mem_of_getElem? (i := 181) (by rfl)))
theorem u1_182 : Cond.instanceMethod yX6_init ∈ UU := uu_of (tb1 (List.mem_of_getElem? (i := 182) (by rfl))) (by rfl)
theorem u1_183 : Cond.code yX6_init cX6_init 1 none ∈ UU := uu_of (tb1 (List.mem_of_getElem? (i := 183) (by rfl))) (by rfl)
theorem u1_184 : Cond.methodLink RX6 3 ⟨"java/lang/Object", "<init>", "()V"⟩ ∈ UU := uu_of (tb1 (List.mem_of_getElem? (i := 184) (by rfl))) (by rfl)
theorem u1_185 : Cond.fieldLink RX6 9 RX6 "items" "[I" ∈ UU := uu_of (tb1 (List.mem_of_getElem? (i := 185) (by rfl))) (by rfl)
theorem u1_186 : Cond.fieldLink RX1 75 RX6 "items" "[I" ∈ UU := uu_of (tb1 (List.mem_of_getElem? (i := 186) (by rfl))) (by rfl)
theorem u1_187 : Cond.fieldLink RX11 238 RX6 "items" "[I" ∈ UU := uu_of (tb1 (List.mem_of_getElem? (i := 187) (by rfl))) (by rfl)
theorem u1_188 : Cond.fieldLink RX6 15 RX6 "sort" "I" ∈ UU := uu_of (tb1 (List.mem_of_getElem? (i := 188) (by rfl))) (by rfl)
theorem u1_189 : Cond.fieldLink RX11 232 RX6 "sort" "I" ∈ UU := uu_of (tb1 (List.mem_of_getElem? (i := 189) (by rfl))) (by rfl)
theorem u1_190 : Cond.fieldLink RX6 19 RX6 "length" "I" ∈ UU := uu_of (tb1 (List.mem_of_getElem? (i := 190) (by rfl))) (by rfl)
theorem u1_191 : Cond.fieldLink RX1 70 RX6 "length" "I" ∈ UU := uu_of (tb1 (List.mem_of_getElem? (i := 191) (by rfl))) (by rfl)
theorem u1_192 : Cond.fieldLink RX11 228 RX6 "length" "I" ∈ UU := uu_of (tb1 (List.mem_of_getElem? (i := 192) (by rfl))) (by rfl)
theorem u1_199 : Cond.superclass RX6 "java/lang/Object" ∈ UU := uu_of (tb1 (List.mem_of_getElem? (i := 199) (by rfl))) (by rfl)
theorem v1_200 : Cond.stringRef RX11 71 "must 0 ; may 8 < held ; thin 1 ;" ∈ lw_tbl := List.mem_append_right _ (tb1 (List.mem_of_getElem? (i := 200) (by rfl)))
theorem u1_201 : Cond.methodLink RX11 73 yJ0_length_8abf5 ∈ UU := uu_of (tb1 (List.mem_of_getElem? (i := 201) (by rfl))) (by rfl)
theorem u1_202 : Cond.instanceMethod yJ0_length_8abf5 ∈ UU := uu_of (tb1 (List.mem_of_getElem? (i := 202) (by rfl))) (by rfl)
theorem u1_203 : Cond.selects RJ0 yJ0_length_8abf5 yJ0_length_8abf5 ∈ UU := uu_of (tb1 (List.mem_of_getElem? (i := 203) (by rfl))) (by rfl)
theorem u1_204 : Cond.code yJ0_length_8abf5 cJ0_length_8abf5 1 (some FieldType.int) ∈ UU := uu_of (tb1 (List.mem_of_getElem? (i := 204) (by rfl))) (by rfl)
theorem u1_205 : Cond.methodLink RJ0 335 yJ0_coder_7d493 ∈ UU := uu_of (tb1 (List.mem_of_getElem? (i := 205) (by rfl))) (by rfl)
theorem u1_206 : Cond.instanceMethod yJ0_coder_7d493 ∈ UU := uu_of (tb1 (List.mem_of_getElem? (i := 206) (by rfl))) (by rfl)
theorem u1_207 : Cond.selects RJ0 yJ0_coder_7d493 yJ0_coder_7d493 ∈ UU := uu_of (tb1 (List.mem_of_getElem? (i := 207) (by rfl))) (by rfl)
theorem u1_208 : Cond.code yJ0_coder_7d493 cJ0_coder_7d493 1 (some FieldType.byte) ∈ UU := uu_of (tb1 (List.mem_of_getElem? (i := 208) (by rfl))) (by rfl)
theorem u1_209 : Cond.fieldLink RJ0 38 RJ0 "COMPACT_STRINGS" "Z" ∈ UU := uu_of (tb1 (List.mem_of_getElem? (i := 209) (by rfl))) (by rfl)
theorem u1_211 : Cond.methodLink RX11 79 yJ0_charAt_5068e ∈ UU := uu_of (tb1 (List.mem_of_getElem? (i := 211) (by rfl))) (by rfl)
theorem u1_212 : Cond.instanceMethod yJ0_charAt_5068e ∈ UU := uu_of (tb1 (List.mem_of_getElem? (i := 212) (by rfl))) (by rfl)
theorem u1_213 : Cond.selects RJ0 yJ0_charAt_5068e yJ0_charAt_5068e ∈ UU := uu_of (tb1 (List.mem_of_getElem? (i := 213) (by rfl))) (by rfl)
theorem u1_214 : Cond.code yJ0_charAt_5068e cJ0_charAt_5068e 2 (some FieldType.char) ∈ UU := uu_of (tb1 (List.mem_of_getElem? (i := 214) (by rfl))) (by rfl)
theorem u1_215 : Cond.methodLink RJ0 492 yJ0_isLatin1_aae02 ∈ UU := uu_of (tb1 (List.mem_of_getElem? (i := 215) (by rfl))) (by rfl)
theorem u1_216 : Cond.instanceMethod yJ0_isLatin1_aae02 ∈ UU := uu_of (tb1 (List.mem_of_getElem? (i := 216) (by rfl))) (by rfl)
theorem u1_217 : Cond.selects RJ0 yJ0_isLatin1_aae02 yJ0_isLatin1_aae02 ∈ UU := uu_of (tb1 (List.mem_of_getElem? (i := 217) (by rfl))) (by rfl)
theorem u1_218 : Cond.code yJ0_isLatin1_aae02 cJ0_isLatin1_aae02 1 (some FieldType.boolean) ∈ UU := uu_of (tb1 (List.mem_of_getElem? (i := 218) (by rfl))) (by rfl)
theorem u1_219 : Cond.methodLink RJ0 495 yJ1_charAt_3b067 ∈ UU := uu_of (tb1 (List.mem_of_getElem? (i := 219) (by rfl))) (by rfl)
theorem u1_220 : Cond.static yJ1_charAt_3b067 ∈ UU := uu_of (tb1 (List.mem_of_getElem? (i := 220) (by rfl))) (by rfl)
theorem u1_221 : Cond.code yJ1_charAt_3b067 cJ1_charAt_3b067 2 (some FieldType.char) ∈ UU := uu_of (tb1 (List.mem_of_getElem? (i := 221) (by rfl))) (by rfl)
theorem u1_222 : Cond.methodLink RJ1 9 yJ0_checkIndex_df160 ∈ UU := uu_of (tb1 (List.mem_of_getElem? (i := 222) (by rfl))) (by rfl)
theorem u1_223 : Cond.static yJ0_checkIndex_df160 ∈ UU := uu_of (tb1 (List.mem_of_getElem? (i := 223) (by rfl))) (by rfl)
theorem u1_224 : Cond.code yJ0_checkIndex_df160 cJ0_checkIndex_df160 2 none ∈ UU := uu_of (tb1 (List.mem_of_getElem? (i := 224) (by rfl))) (by rfl)
theorem u1_225 : Cond.fieldLink RJ0 1053 RJ3 "SIOOBE_FORMATTER" "Ljava/util/function/BiFunction;" ∈ UU := uu_of (tb1 (List.mem_of_getElem? (i := 225) (by rfl))) (by rfl)
theorem u1_227 : Cond.methodLink RJ0 1059 yJ3_checkIndex_8e157 ∈ UU := uu_of (tb1 (List.mem_of_getElem? (i := 227) (by rfl))) (by rfl)
theorem u1_228 : Cond.static yJ3_checkIndex_8e157 ∈ UU := uu_of (tb1 (List.mem_of_getElem? (i := 228) (by rfl))) (by rfl)
theorem u1_229 : Cond.code yJ3_checkIndex_8e157 cJ3_checkIndex_8e157 3 (some FieldType.int) ∈ UU := uu_of (tb1 (List.mem_of_getElem? (i := 229) (by rfl))) (by rfl)
theorem u1_230 : Cond.methodLink RJ0 498 yJ2_charAt_3b067 ∈ UU := uu_of (tb1 (List.mem_of_getElem? (i := 230) (by rfl))) (by rfl)
theorem u1_231 : Cond.static yJ2_charAt_3b067 ∈ UU := uu_of (tb1 (List.mem_of_getElem? (i := 231) (by rfl))) (by rfl)
theorem u1_232 : Cond.code yJ2_charAt_3b067 cJ2_charAt_3b067 2 (some FieldType.char) ∈ UU := uu_of (tb1 (List.mem_of_getElem? (i := 232) (by rfl))) (by rfl)
theorem u1_233 : Cond.methodLink RJ2 67 yJ2_checkIndex_2214a ∈ UU := uu_of (tb1 (List.mem_of_getElem? (i := 233) (by rfl))) (by rfl)
theorem u1_234 : Cond.static yJ2_checkIndex_2214a ∈ UU := uu_of (tb1 (List.mem_of_getElem? (i := 234) (by rfl))) (by rfl)
theorem u1_235 : Cond.code yJ2_checkIndex_2214a cJ2_checkIndex_2214a 2 none ∈ UU := uu_of (tb1 (List.mem_of_getElem? (i := 235) (by rfl))) (by rfl)
theorem u1_236 : Cond.methodLink RJ2 48 yJ2_length_9d52b ∈ UU := uu_of (tb1 (List.mem_of_getElem? (i := 236) (by rfl))) (by rfl)
theorem u1_237 : Cond.static yJ2_length_9d52b ∈ UU := uu_of (tb1 (List.mem_of_getElem? (i := 237) (by rfl))) (by rfl)
theorem u1_238 : Cond.code yJ2_length_9d52b cJ2_length_9d52b 1 (some FieldType.int) ∈ UU := uu_of (tb1 (List.mem_of_getElem? (i := 238) (by rfl))) (by rfl)
theorem u1_239 : Cond.methodLink RJ2 414 yJ0_checkIndex_df160 ∈ UU := uu_of (tb1 (List.mem_of_getElem? (i := 239) (by rfl))) (by rfl)
theorem u2_0 : Cond.methodLink RJ2 71 yJ2_getChar_3b067 ∈ UU := uu_of (tb2 (List.mem_of_getElem? (i := 0) (by rfl))) (by rfl)
theorem u2_1 : Cond.static yJ2_getChar_3b067 ∈ UU := uu_of (tb2 (List.mem_of_getElem? (i := 1) (by rfl))) (by rfl)
theorem u2_2 : Cond.code yJ2_getChar_3b067 cJ2_getChar_3b067 2 (some FieldType.char) ∈ UU := uu_of (tb2 (List.mem_of_getElem? (i := 2) (by rfl))) (by rfl)
theorem u2_3 : Cond.fieldLink RJ2 44 RJ2 "$assertionsDisabled" "Z" ∈ UU := uu_of (tb2 (List.mem_of_getElem? (i := 3) (by rfl))) (by rfl)
theorem u2_5 : Cond.fieldLink RJ2 59 RJ2 "HI_BYTE_SHIFT" "I" ∈ UU := uu_of (tb2 (List.mem_of_getElem? (i := 5) (by rfl))) (by rfl)
theorem u2_7 : Cond.fieldLink RJ2 63 RJ2 "LO_BYTE_SHIFT" "I" ∈ UU := uu_of (tb2 (List.mem_of_getElem? (i := 7) (by rfl))) (by rfl)
theorem u2_9 : Cond.methodLink RX11 83 yX5_put ∈ UU := uu_of (tb2 (List.mem_of_getElem? (i := 9) (by rfl))) (by rfl)
theorem u2_10 : Cond.instanceMethod yX5_put ∈ UU := uu_of (tb2 (List.mem_of_getElem? (i := 10) (by rfl))) (by rfl)
theorem u2_11 : Cond.selects RX5 yX5_put yX5_put ∈ UU := uu_of (tb2 (List.mem_of_getElem? (i := 11) (by rfl))) (by rfl)
theorem u2_12 : Cond.code yX5_put cX5_put 2 none ∈ UU := uu_of (tb2 (List.mem_of_getElem? (i := 12) (by rfl))) (by rfl)
theorem u2_13 : Cond.methodLink RX11 87 yX5_compiled ∈ UU := uu_of (tb2 (List.mem_of_getElem? (i := 13) (by rfl))) (by rfl)
theorem u2_14 : Cond.instanceMethod yX5_compiled ∈ UU := uu_of (tb2 (List.mem_of_getElem? (i := 14) (by rfl))) (by rfl)
theorem u2_15 : Cond.selects RX5 yX5_compiled yX5_compiled ∈ UU := uu_of (tb2 (List.mem_of_getElem? (i := 15) (by rfl))) (by rfl)
theorem u2_16 : Cond.code yX5_compiled cX5_compiled 3 (some (FieldType.object "NobodyBreathes$Text")) ∈ UU := uu_of (tb2 (List.mem_of_getElem? (i := 16) (by rfl))) (by rfl)
theorem u2_17 : Cond.methodLink RX5 29 yX5_advance ∈ UU := uu_of (tb2 (List.mem_of_getElem? (i := 17) (by rfl))) (by rfl)
theorem u2_19 : Cond.instanceMethod yX5_advance ∈ UU := uu_of (tb2 (List.mem_of_getElem? (i := 19) (by rfl))) (by rfl)
theorem u2_20 : Cond.code yX5_advance cX5_advance 3 none ∈ UU := uu_of (tb2 (List.mem_of_getElem? (i := 20) (by rfl))) (by rfl)
theorem u2_21 : Cond.methodLink RX5 81 yX5_readWord ∈ UU := uu_of (tb2 (List.mem_of_getElem? (i := 21) (by rfl))) (by rfl)
theorem u2_23 : Cond.instanceMethod yX5_readWord ∈ UU := uu_of (tb2 (List.mem_of_getElem? (i := 23) (by rfl))) (by rfl)
theorem u2_24 : Cond.code yX5_readWord cX5_readWord 2 none ∈ UU := uu_of (tb2 (List.mem_of_getElem? (i := 24) (by rfl))) (by rfl)
theorem u2_25 : Cond.methodLink RX5 90 yX5_isWord ∈ UU := uu_of (tb2 (List.mem_of_getElem? (i := 25) (by rfl))) (by rfl)
theorem u2_27 : Cond.instanceMethod yX5_isWord ∈ UU := uu_of (tb2 (List.mem_of_getElem? (i := 27) (by rfl))) (by rfl)
theorem u2_28 : Cond.code yX5_isWord cX5_isWord 6 (some FieldType.boolean) ∈ UU := uu_of (tb2 (List.mem_of_getElem? (i := 28) (by rfl))) (by rfl)
theorem v2_29 : Cond.stringRef RX5 99 "must   may    thin   or     and    not    held   loud   step   singingbeside tired  " ∈ lw_tbl := List.mem_append_right _ (tb2 (List.mem_of_getElem? (i := 29) (by rfl)))
theorem u2_30 : Cond.methodLink RX5 101 yJ0_charAt_5068e ∈ UU := uu_of (tb2 (List.mem_of_getElem? (i := 30) (by rfl))) (by rfl)
theorem u2_31 : Cond.methodLink RX5 93 yJ9_min_7cf53 ∈ UU := uu_of (tb2 (List.mem_of_getElem? (i := 31) (by rfl))) (by rfl)
theorem u2_32 : Cond.static yJ9_min_7cf53 ∈ UU := uu_of (tb2 (List.mem_of_getElem? (i := 32) (by rfl))) (by rfl)
theorem u2_33 : Cond.code yJ9_min_7cf53 cJ9_min_7cf53 2 (some FieldType.int) ∈ UU := uu_of (tb2 (List.mem_of_getElem? (i := 33) (by rfl))) (by rfl)
theorem u2_34 : Cond.methodLink RX5 84 yX5_readNumber ∈ UU := uu_of (tb2 (List.mem_of_getElem? (i := 34) (by rfl))) (by rfl)
theorem u2_36 : Cond.instanceMethod yX5_readNumber ∈ UU := uu_of (tb2 (List.mem_of_getElem? (i := 36) (by rfl))) (by rfl)
theorem u2_37 : Cond.code yX5_readNumber cX5_readNumber 2 none ∈ UU := uu_of (tb2 (List.mem_of_getElem? (i := 37) (by rfl))) (by rfl)
theorem u2_38 : Cond.methodLink RX5 87 yX5_readSign ∈ UU := uu_of (tb2 (List.mem_of_getElem? (i := 38) (by rfl))) (by rfl)
theorem u2_40 : Cond.instanceMethod yX5_readSign ∈ UU := uu_of (tb2 (List.mem_of_getElem? (i := 40) (by rfl))) (by rfl)
theorem u2_41 : Cond.code yX5_readSign cX5_readSign 1 none ∈ UU := uu_of (tb2 (List.mem_of_getElem? (i := 41) (by rfl))) (by rfl)
theorem v2_42 : Cond.stringRef RX5 107 "();+-*<=" ∈ lw_tbl := List.mem_append_right _ (tb2 (List.mem_of_getElem? (i := 42) (by rfl)))
theorem u2_43 : Cond.methodLink RX5 109 yJ0_indexOf_0f7a4 ∈ UU := uu_of (tb2 (List.mem_of_getElem? (i := 43) (by rfl))) (by rfl)
theorem u2_44 : Cond.instanceMethod yJ0_indexOf_0f7a4 ∈ UU := uu_of (tb2 (List.mem_of_getElem? (i := 44) (by rfl))) (by rfl)
theorem u2_45 : Cond.selects RJ0 yJ0_indexOf_0f7a4 yJ0_indexOf_0f7a4 ∈ UU := uu_of (tb2 (List.mem_of_getElem? (i := 45) (by rfl))) (by rfl)
theorem u2_46 : Cond.code yJ0_indexOf_0f7a4 cJ0_indexOf_0f7a4 2 (some FieldType.int) ∈ UU := uu_of (tb2 (List.mem_of_getElem? (i := 46) (by rfl))) (by rfl)
theorem u2_47 : Cond.methodLink RJ0 633 yJ0_indexOf_7cf53 ∈ UU := uu_of (tb2 (List.mem_of_getElem? (i := 47) (by rfl))) (by rfl)
theorem u2_48 : Cond.instanceMethod yJ0_indexOf_7cf53 ∈ UU := uu_of (tb2 (List.mem_of_getElem? (i := 48) (by rfl))) (by rfl)
theorem u2_49 : Cond.selects RJ0 yJ0_indexOf_7cf53 yJ0_indexOf_7cf53 ∈ UU := uu_of (tb2 (List.mem_of_getElem? (i := 49) (by rfl))) (by rfl)
theorem u2_50 : Cond.code yJ0_indexOf_7cf53 cJ0_indexOf_7cf53 3 (some FieldType.int) ∈ UU := uu_of (tb2 (List.mem_of_getElem? (i := 50) (by rfl))) (by rfl)
theorem u2_51 : Cond.methodLink RJ0 505 yJ0_length_8abf5 ∈ UU := uu_of (tb2 (List.mem_of_getElem? (i := 51) (by rfl))) (by rfl)
theorem u2_52 : Cond.methodLink RJ0 637 yJ1_indexOf_4cfef ∈ UU := uu_of (tb2 (List.mem_of_getElem? (i := 52) (by rfl))) (by rfl)
theorem u2_53 : Cond.static yJ1_indexOf_4cfef ∈ UU := uu_of (tb2 (List.mem_of_getElem? (i := 53) (by rfl))) (by rfl)
theorem u2_54 : Cond.code yJ1_indexOf_4cfef cJ1_indexOf_4cfef 4 (some FieldType.int) ∈ UU := uu_of (tb2 (List.mem_of_getElem? (i := 54) (by rfl))) (by rfl)
theorem u2_55 : Cond.methodLink RJ1 88 yJ1_canEncode_9a6ad ∈ UU := uu_of (tb2 (List.mem_of_getElem? (i := 55) (by rfl))) (by rfl)
theorem u2_56 : Cond.static yJ1_canEncode_9a6ad ∈ UU := uu_of (tb2 (List.mem_of_getElem? (i := 56) (by rfl))) (by rfl)
theorem u2_57 : Cond.code yJ1_canEncode_9a6ad cJ1_canEncode_9a6ad 1 (some FieldType.boolean) ∈ UU := uu_of (tb2 (List.mem_of_getElem? (i := 57) (by rfl))) (by rfl)
theorem u2_58 : Cond.methodLink RJ1 92 yJ9_max_7cf53 ∈ UU := uu_of (tb2 (List.mem_of_getElem? (i := 58) (by rfl))) (by rfl)
theorem u2_59 : Cond.static yJ9_max_7cf53 ∈ UU := uu_of (tb2 (List.mem_of_getElem? (i := 59) (by rfl))) (by rfl)
theorem u2_60 : Cond.code yJ9_max_7cf53 cJ9_max_7cf53 2 (some FieldType.int) ∈ UU := uu_of (tb2 (List.mem_of_getElem? (i := 60) (by rfl))) (by rfl)
theorem u2_61 : Cond.methodLink RJ1 38 yJ9_min_7cf53 ∈ UU := uu_of (tb2 (List.mem_of_getElem? (i := 61) (by rfl))) (by rfl)
theorem u2_62 : Cond.methodLink RJ1 95 yJ1_indexOfChar_4cfef ∈ UU := uu_of (tb2 (List.mem_of_getElem? (i := 62) (by rfl))) (by rfl)
theorem u2_63 : Cond.static yJ1_indexOfChar_4cfef ∈ UU := uu_of (tb2 (List.mem_of_getElem? (i := 63) (by rfl))) (by rfl)
theorem u2_64 : Cond.code yJ1_indexOfChar_4cfef cJ1_indexOfChar_4cfef 6 (some FieldType.int) ∈ UU := uu_of (tb2 (List.mem_of_getElem? (i := 64) (by rfl))) (by rfl)
theorem u2_65 : Cond.methodLink RJ0 640 yJ2_indexOf_4cfef ∈ UU := uu_of (tb2 (List.mem_of_getElem? (i := 65) (by rfl))) (by rfl)
theorem u2_66 : Cond.static yJ2_indexOf_4cfef ∈ UU := uu_of (tb2 (List.mem_of_getElem? (i := 66) (by rfl))) (by rfl)
theorem u2_67 : Cond.code yJ2_indexOf_4cfef cJ2_indexOf_4cfef 4 (some FieldType.int) ∈ UU := uu_of (tb2 (List.mem_of_getElem? (i := 67) (by rfl))) (by rfl)
theorem u2_68 : Cond.methodLink RJ2 224 yJ9_max_7cf53 ∈ UU := uu_of (tb2 (List.mem_of_getElem? (i := 68) (by rfl))) (by rfl)
theorem u2_69 : Cond.methodLink RJ2 183 yJ9_min_7cf53 ∈ UU := uu_of (tb2 (List.mem_of_getElem? (i := 69) (by rfl))) (by rfl)
theorem u2_70 : Cond.constant RJ2 227 65536 ∈ UU := uu_of (tb2 (List.mem_of_getElem? (i := 70) (by rfl))) (by rfl)
theorem u2_71 : Cond.methodLink RJ2 228 yJ2_indexOfChar_4cfef ∈ UU := uu_of (tb2 (List.mem_of_getElem? (i := 71) (by rfl))) (by rfl)
theorem u2_72 : Cond.static yJ2_indexOfChar_4cfef ∈ UU := uu_of (tb2 (List.mem_of_getElem? (i := 72) (by rfl))) (by rfl)
theorem u2_73 : Cond.code yJ2_indexOfChar_4cfef cJ2_indexOfChar_4cfef 4 (some FieldType.int) ∈ UU := uu_of (tb2 (List.mem_of_getElem? (i := 73) (by rfl))) (by rfl)
theorem u2_74 : Cond.methodLink RJ2 96 yJ2_checkBoundsBeginEnd_d044e ∈ UU := uu_of (tb2 (List.mem_of_getElem? (i := 74) (by rfl))) (by rfl)
theorem u2_75 : Cond.static yJ2_checkBoundsBeginEnd_d044e ∈ UU := uu_of (tb2 (List.mem_of_getElem? (i := 75) (by rfl))) (by rfl)
theorem u2_76 : Cond.code yJ2_checkBoundsBeginEnd_d044e cJ2_checkBoundsBeginEnd_d044e 3 none ∈ UU := uu_of (tb2 (List.mem_of_getElem? (i := 76) (by rfl))) (by rfl)
theorem u2_77 : Cond.methodLink RJ2 241 yJ0_checkBoundsBeginEnd_23922 ∈ UU := uu_of (tb2 (List.mem_of_getElem? (i := 77) (by rfl))) (by rfl)
theorem u2_78 : Cond.static yJ0_checkBoundsBeginEnd_23922 ∈ UU := uu_of (tb2 (List.mem_of_getElem? (i := 78) (by rfl))) (by rfl)
theorem u2_79 : Cond.code yJ0_checkBoundsBeginEnd_23922 cJ0_checkBoundsBeginEnd_23922 3 none ∈ UU := uu_of (tb2 (List.mem_of_getElem? (i := 79) (by rfl))) (by rfl)
theorem u2_80 : Cond.methodLink RJ0 1062 yJ3_checkFromToIndex_8c36e ∈ UU := uu_of (tb2 (List.mem_of_getElem? (i := 80) (by rfl))) (by rfl)
theorem u2_81 : Cond.static yJ3_checkFromToIndex_8c36e ∈ UU := uu_of (tb2 (List.mem_of_getElem? (i := 81) (by rfl))) (by rfl)
theorem u2_82 : Cond.code yJ3_checkFromToIndex_8c36e cJ3_checkFromToIndex_8c36e 4 (some FieldType.int) ∈ UU := uu_of (tb2 (List.mem_of_getElem? (i := 82) (by rfl))) (by rfl)
theorem u2_83 : Cond.methodLink RJ2 244 yJ2_indexOfCharUnsafe_4cfef ∈ UU := uu_of (tb2 (List.mem_of_getElem? (i := 83) (by rfl))) (by rfl)
theorem u2_84 : Cond.static yJ2_indexOfCharUnsafe_4cfef ∈ UU := uu_of (tb2 (List.mem_of_getElem? (i := 84) (by rfl))) (by rfl)
theorem u2_85 : Cond.code yJ2_indexOfCharUnsafe_4cfef cJ2_indexOfCharUnsafe_4cfef 5 (some FieldType.int) ∈ UU := uu_of (tb2 (List.mem_of_getElem? (i := 85) (by rfl))) (by rfl)
theorem u2_86 : Cond.methodLink RJ2 232 yJ2_indexOfSupplementary_4cfef ∈ UU := uu_of (tb2 (List.mem_of_getElem? (i := 86) (by rfl))) (by rfl)
theorem u2_87 : Cond.static yJ2_indexOfSupplementary_4cfef ∈ UU := uu_of (tb2 (List.mem_of_getElem? (i := 87) (by rfl))) (by rfl)
theorem u2_88 : Cond.code yJ2_indexOfSupplementary_4cfef cJ2_indexOfSupplementary_4cfef 7 (some FieldType.int) ∈ UU := uu_of (tb2 (List.mem_of_getElem? (i := 88) (by rfl))) (by rfl)
theorem u2_89 : Cond.methodLink RJ2 164 yJ11_isValidCodePoint_9a6ad ∈ UU := uu_of (tb2 (List.mem_of_getElem? (i := 89) (by rfl))) (by rfl)
theorem u2_90 : Cond.static yJ11_isValidCodePoint_9a6ad ∈ UU := uu_of (tb2 (List.mem_of_getElem? (i := 90) (by rfl))) (by rfl)
theorem u2_91 : Cond.code yJ11_isValidCodePoint_9a6ad cJ11_isValidCodePoint_9a6ad 2 (some FieldType.boolean) ∈ UU := uu_of (tb2 (List.mem_of_getElem? (i := 91) (by rfl))) (by rfl)
theorem u2_92 : Cond.methodLink RJ2 157 yJ11_highSurrogate_5068e ∈ UU := uu_of (tb2 (List.mem_of_getElem? (i := 92) (by rfl))) (by rfl)
theorem u2_93 : Cond.static yJ11_highSurrogate_5068e ∈ UU := uu_of (tb2 (List.mem_of_getElem? (i := 93) (by rfl))) (by rfl)
theorem u2_94 : Cond.code yJ11_highSurrogate_5068e cJ11_highSurrogate_5068e 1 (some FieldType.char) ∈ UU := uu_of (tb2 (List.mem_of_getElem? (i := 94) (by rfl))) (by rfl)
theorem u2_95 : Cond.constant RJ11 110 55232 ∈ UU := uu_of (tb2 (List.mem_of_getElem? (i := 95) (by rfl))) (by rfl)
theorem u2_96 : Cond.methodLink RJ2 161 yJ11_lowSurrogate_5068e ∈ UU := uu_of (tb2 (List.mem_of_getElem? (i := 96) (by rfl))) (by rfl)
theorem u2_97 : Cond.static yJ11_lowSurrogate_5068e ∈ UU := uu_of (tb2 (List.mem_of_getElem? (i := 97) (by rfl))) (by rfl)
theorem u2_98 : Cond.code yJ11_lowSurrogate_5068e cJ11_lowSurrogate_5068e 1 (some FieldType.char) ∈ UU := uu_of (tb2 (List.mem_of_getElem? (i := 98) (by rfl))) (by rfl)
theorem u2_99 : Cond.constant RJ11 76 56320 ∈ UU := uu_of (tb2 (List.mem_of_getElem? (i := 99) (by rfl))) (by rfl)
theorem u2_100 : Cond.methodLink RX5 32 yX5_pass ∈ UU := uu_of (tb2 (List.mem_of_getElem? (i := 100) (by rfl))) (by rfl)
theorem u2_102 : Cond.instanceMethod yX5_pass ∈ UU := uu_of (tb2 (List.mem_of_getElem? (i := 102) (by rfl))) (by rfl)
theorem u2_103 : Cond.code yX5_pass cX5_pass 2 (some FieldType.boolean) ∈ UU := uu_of (tb2 (List.mem_of_getElem? (i := 103) (by rfl))) (by rfl)
theorem u2_104 : Cond.methodLink RX5 36 yX5_either ∈ UU := uu_of (tb2 (List.mem_of_getElem? (i := 104) (by rfl))) (by rfl)
theorem u2_106 : Cond.instanceMethod yX5_either ∈ UU := uu_of (tb2 (List.mem_of_getElem? (i := 106) (by rfl))) (by rfl)
theorem u2_107 : Cond.code yX5_either cX5_either 4 (some FieldType.boolean) ∈ UU := uu_of (tb2 (List.mem_of_getElem? (i := 107) (by rfl))) (by rfl)
theorem u2_108 : Cond.methodLink RX5 53 yX5_both ∈ UU := uu_of (tb2 (List.mem_of_getElem? (i := 108) (by rfl))) (by rfl)
theorem u2_110 : Cond.instanceMethod yX5_both ∈ UU := uu_of (tb2 (List.mem_of_getElem? (i := 110) (by rfl))) (by rfl)
theorem u2_111 : Cond.code yX5_both cX5_both 4 (some FieldType.boolean) ∈ UU := uu_of (tb2 (List.mem_of_getElem? (i := 111) (by rfl))) (by rfl)
theorem u2_112 : Cond.methodLink RX5 60 yX5_negated ∈ UU := uu_of (tb2 (List.mem_of_getElem? (i := 112) (by rfl))) (by rfl)
theorem u2_114 : Cond.instanceMethod yX5_negated ∈ UU := uu_of (tb2 (List.mem_of_getElem? (i := 114) (by rfl))) (by rfl)
theorem u2_115 : Cond.code yX5_negated cX5_negated 3 (some FieldType.boolean) ∈ UU := uu_of (tb2 (List.mem_of_getElem? (i := 115) (by rfl))) (by rfl)
theorem u2_116 : Cond.methodLink RX5 63 yX5_enter ∈ UU := uu_of (tb2 (List.mem_of_getElem? (i := 116) (by rfl))) (by rfl)
theorem u2_118 : Cond.instanceMethod yX5_enter ∈ UU := uu_of (tb2 (List.mem_of_getElem? (i := 118) (by rfl))) (by rfl)
theorem u2_119 : Cond.code yX5_enter cX5_enter 2 (some FieldType.boolean) ∈ UU := uu_of (tb2 (List.mem_of_getElem? (i := 119) (by rfl))) (by rfl)
theorem u2_120 : Cond.methodLink RX5 56 yX5_emit ∈ UU := uu_of (tb2 (List.mem_of_getElem? (i := 120) (by rfl))) (by rfl)
theorem u2_122 : Cond.instanceMethod yX5_emit ∈ UU := uu_of (tb2 (List.mem_of_getElem? (i := 122) (by rfl))) (by rfl)
theorem u2_123 : Cond.code yX5_emit cX5_emit 3 (some FieldType.boolean) ∈ UU := uu_of (tb2 (List.mem_of_getElem? (i := 123) (by rfl))) (by rfl)
theorem u2_124 : Cond.methodLink RX5 66 yX5_sum ∈ UU := uu_of (tb2 (List.mem_of_getElem? (i := 124) (by rfl))) (by rfl)
theorem u2_126 : Cond.instanceMethod yX5_sum ∈ UU := uu_of (tb2 (List.mem_of_getElem? (i := 126) (by rfl))) (by rfl)
theorem u2_127 : Cond.code yX5_sum cX5_sum 5 (some FieldType.boolean) ∈ UU := uu_of (tb2 (List.mem_of_getElem? (i := 127) (by rfl))) (by rfl)
theorem u2_128 : Cond.methodLink RX5 69 yX5_product ∈ UU := uu_of (tb2 (List.mem_of_getElem? (i := 128) (by rfl))) (by rfl)
theorem u2_130 : Cond.instanceMethod yX5_product ∈ UU := uu_of (tb2 (List.mem_of_getElem? (i := 130) (by rfl))) (by rfl)
theorem u2_131 : Cond.code yX5_product cX5_product 4 (some FieldType.boolean) ∈ UU := uu_of (tb2 (List.mem_of_getElem? (i := 131) (by rfl))) (by rfl)
theorem u2_132 : Cond.methodLink RX5 72 yX5_one ∈ UU := uu_of (tb2 (List.mem_of_getElem? (i := 132) (by rfl))) (by rfl)
theorem u2_134 : Cond.instanceMethod yX5_one ∈ UU := uu_of (tb2 (List.mem_of_getElem? (i := 134) (by rfl))) (by rfl)
theorem u2_135 : Cond.code yX5_one cX5_one 2 (some FieldType.boolean) ∈ UU := uu_of (tb2 (List.mem_of_getElem? (i := 135) (by rfl))) (by rfl)
theorem u2_136 : Cond.classLink RX5 42 RX9 ∈ UU := uu_of (tb2 (List.mem_of_getElem? (i := 136) (by rfl))) (by rfl)
theorem u2_137 : Cond.instantiable RX9 3 ∈ UU := uu_of (tb2 (List.mem_of_getElem? (i := 137) (by rfl))) (by rfl)
theorem u2_138 : Cond.methodLink RX5 44 yJ7_copyOf_59c91 ∈ UU := uu_of (tb2 (List.mem_of_getElem? (i := 138) (by rfl))) (by rfl)
theorem u2_139 : Cond.static yJ7_copyOf_59c91 ∈ UU := uu_of (tb2 (List.mem_of_getElem? (i := 139) (by rfl))) (by rfl)
theorem u2_140 : Cond.code yJ7_copyOf_59c91 cJ7_copyOf_59c91 3 (some (FieldType.array FieldType.int)) ∈ UU := uu_of (tb2 (List.mem_of_getElem? (i := 140) (by rfl))) (by rfl)
theorem u2_141 : Cond.methodLink RJ7 316 ⟨"[I", "clone", "()Ljava/lang/Object;"⟩ ∈ UU := uu_of (tb2 (List.mem_of_getElem? (i := 141) (by rfl))) (by rfl)
theorem u2_142 : Cond.sameMethod "[I" "java/lang/Object" "clone" "()Ljava/lang/Object;" ∈ UU := uu_of (tb2 (List.mem_of_getElem? (i := 142) (by rfl))) (by rfl)
theorem u2_143 : Cond.native ⟨"java/lang/Object", "clone", "()Ljava/lang/Object;"⟩ ∈ UU := uu_of (tb2 (List.mem_of_getElem? (i := 143) (by rfl))) (by rfl)
theorem u2_144 : Cond.instanceMethod ⟨"java/lang/Object", "clone", "()Ljava/lang/Object;"⟩ ∈ UU := uu_of (tb2 (List.mem_of_getElem? (i := 144) (by rfl))) (by rfl)
theorem u2_145 : Cond.selects "[I" ⟨"[I", "clone", "()Ljava/lang/Object;"⟩ ⟨"java/lang/Object", "clone", "()Ljava/lang/Object;"⟩ ∈ UU := uu_of (tb2 (List.mem_of_getElem? (i := 145) (by rfl))) (by rfl)
theorem u2_147 : Cond.classLink RJ7 317 "[I" ∈ UU := uu_of (tb2 (List.mem_of_getElem? (i := 147) (by rfl))) (by rfl)
theorem u2_148 : Cond.methodLink RJ7 304 yJ9_min_7cf53 ∈ UU := uu_of (tb2 (List.mem_of_getElem? (i := 148) (by rfl))) (by rfl)
theorem u2_149 : Cond.methodLink RJ7 150 ⟨RJ10, "arraycopy", "(Ljava/lang/Object;ILjava/lang/Object;II)V"⟩ ∈ UU := uu_of (tb2 (List.mem_of_getElem? (i := 149) (by rfl))) (by rfl)
theorem u2_150 : Cond.static ⟨RJ10, "arraycopy", "(Ljava/lang/Object;ILjava/lang/Object;II)V"⟩ ∈ UU := uu_of (tb2 (List.mem_of_getElem? (i := 150) (by rfl))) (by rfl)
theorem u2_151 : Cond.native ⟨RJ10, "arraycopy", "(Ljava/lang/Object;ILjava/lang/Object;II)V"⟩ ∈ UU := uu_of (tb2 (List.mem_of_getElem? (i := 151) (by rfl))) (by rfl)
theorem u2_152 : Cond.methodLink RX5 50 yX9_init ∈ UU := uu_of (tb2 (List.mem_of_getElem? (i := 152) (by rfl))) (by rfl)
theorem u2_153 : Cond.instanceMethod yX9_init ∈ UU := uu_of (tb2 (List.mem_of_getElem? (i := 153) (by rfl))) (by rfl)
theorem u2_154 : Cond.code yX9_init cX9_init 3 none ∈ UU := uu_of (tb2 (List.mem_of_getElem? (i := 154) (by rfl))) (by rfl)
theorem u2_155 : Cond.methodLink RX9 3 ⟨"java/lang/Object", "<init>", "()V"⟩ ∈ UU := uu_of (tb2 (List.mem_of_getElem? (i := 155) (by rfl))) (by rfl)
theorem u2_156 : Cond.fieldLink RX9 15 RX9 "code" "[I" ∈ UU := uu_of (tb2 (List.mem_of_getElem? (i := 156) (by rfl))) (by rfl)
theorem u2_157 : Cond.fieldLink RX9 18 RX9 "ends" "[I" ∈ UU := uu_of (tb2 (List.mem_of_getElem? (i := 157) (by rfl))) (by rfl)
theorem u2_158 : Cond.fieldLink RX9 11 RX9 "stack" "[I" ∈ UU := uu_of (tb2 (List.mem_of_getElem? (i := 158) (by rfl))) (by rfl)
theorem u2_165 : Cond.superclass RX9 "java/lang/Object" ∈ UU := uu_of (tb2 (List.mem_of_getElem? (i := 165) (by rfl))) (by rfl)
theorem u2_166 : Cond.arrayClass FieldType.byte ∈ UU := uu_of (tb2 (List.mem_of_getElem? (i := 166) (by rfl))) (by rfl)
theorem u2_167 : Cond.methodLink RX11 91 yX11_keepText ∈ UU := uu_of (tb2 (List.mem_of_getElem? (i := 167) (by rfl))) (by rfl)
theorem u2_169 : Cond.instanceMethod yX11_keepText ∈ UU := uu_of (tb2 (List.mem_of_getElem? (i := 169) (by rfl))) (by rfl)
theorem u2_170 : Cond.code yX11_keepText cX11_keepText 2 none ∈ UU := uu_of (tb2 (List.mem_of_getElem? (i := 170) (by rfl))) (by rfl)
theorem u2_171 : Cond.methodLink RX11 95 yX5_clear ∈ UU := uu_of (tb2 (List.mem_of_getElem? (i := 171) (by rfl))) (by rfl)
theorem u2_172 : Cond.instanceMethod yX5_clear ∈ UU := uu_of (tb2 (List.mem_of_getElem? (i := 172) (by rfl))) (by rfl)
theorem u2_173 : Cond.selects RX5 yX5_clear yX5_clear ∈ UU := uu_of (tb2 (List.mem_of_getElem? (i := 173) (by rfl))) (by rfl)
theorem u2_174 : Cond.code yX5_clear cX5_clear 1 none ∈ UU := uu_of (tb2 (List.mem_of_getElem? (i := 174) (by rfl))) (by rfl)
theorem u2_175 : Cond.fieldLink RX11 10 RX11 "piece" "LNobodyBreathes$Piece;" ∈ UU := uu_of (tb2 (List.mem_of_getElem? (i := 175) (by rfl))) (by rfl)
theorem u2_176 : Cond.fieldLink RX11 16 RX11 "kept" "LNobodyBreathes$Piece;" ∈ UU := uu_of (tb2 (List.mem_of_getElem? (i := 176) (by rfl))) (by rfl)
theorem u2_177 : Cond.fieldLink RX11 19 RX11 "keptSize" "I" ∈ UU := uu_of (tb2 (List.mem_of_getElem? (i := 177) (by rfl))) (by rfl)
theorem u2_178 : Cond.fieldLink RX11 25 RX11 "choir" "[LNobodyBreathes$Singer;" ∈ UU := uu_of (tb2 (List.mem_of_getElem? (i := 178) (by rfl))) (by rfl)
theorem u2_179 : Cond.fieldLink RX11 29 RX11 "size" "I" ∈ UU := uu_of (tb2 (List.mem_of_getElem? (i := 179) (by rfl))) (by rfl)
theorem u2_180 : Cond.fieldLink RX11 35 RX11 "reader" "LNobodyBreathes$Reader;" ∈ UU := uu_of (tb2 (List.mem_of_getElem? (i := 180) (by rfl))) (by rfl)
theorem u2_181 : Cond.fieldLink RX11 41 RX11 "written" "[LNobodyBreathes$Text;" ∈ UU := uu_of (tb2 (List.mem_of_getElem? (i := 181) (by rfl))) (by rfl)
theorem u2_182 : Cond.fieldLink RX11 45 RX11 "texts" "I" ∈ UU := uu_of (tb2 (List.mem_of_getElem? (i := 182) (by rfl))) (by rfl)
theorem u2_183 : Cond.fieldLink RX11 50 RX11 "rows" "[LNobodyBreathes$Sheet;" ∈ UU := uu_of (tb2 (List.mem_of_getElem? (i := 183) (by rfl))) (by rfl)
theorem u2_184 : Cond.fieldLink RX11 59 RX11 "course" "LNobodyBreathes$Course;" ∈ UU := uu_of (tb2 (List.mem_of_getElem? (i := 184) (by rfl))) (by rfl)
theorem u2_185 : Cond.fieldLink RX11 63 RX11 "pastLow" "[J" ∈ UU := uu_of (tb2 (List.mem_of_getElem? (i := 185) (by rfl))) (by rfl)
theorem u2_186 : Cond.fieldLink RX11 67 RX11 "pastHigh" "[J" ∈ UU := uu_of (tb2 (List.mem_of_getElem? (i := 186) (by rfl))) (by rfl)
theorem u2_211 : Cond.superclass RX11 "java/lang/Object" ∈ UU := uu_of (tb2 (List.mem_of_getElem? (i := 211) (by rfl))) (by rfl)
theorem u2_212 : Cond.methodLink RL 13 yX11_set ∈ UU := uu_of (tb2 (List.mem_of_getElem? (i := 212) (by rfl))) (by rfl)
theorem u2_213 : Cond.instanceMethod yX11_set ∈ UU := uu_of (tb2 (List.mem_of_getElem? (i := 213) (by rfl))) (by rfl)
theorem u2_214 : Cond.selects RX11 yX11_set yX11_set ∈ UU := uu_of (tb2 (List.mem_of_getElem? (i := 214) (by rfl))) (by rfl)
theorem u2_215 : Cond.code yX11_set cX11_set 5 (some FieldType.int) ∈ UU := uu_of (tb2 (List.mem_of_getElem? (i := 215) (by rfl))) (by rfl)
theorem u2_216 : Cond.methodLink RX11 102 yX11_change ∈ UU := uu_of (tb2 (List.mem_of_getElem? (i := 216) (by rfl))) (by rfl)
theorem u2_217 : Cond.static yX11_change ∈ UU := uu_of (tb2 (List.mem_of_getElem? (i := 217) (by rfl))) (by rfl)
theorem u2_218 : Cond.code yX11_change cX11_change 5 (some FieldType.int) ∈ UU := uu_of (tb2 (List.mem_of_getElem? (i := 218) (by rfl))) (by rfl)
theorem u2_219 : Cond.methodLink RX11 118 yX11_outside ∈ UU := uu_of (tb2 (List.mem_of_getElem? (i := 219) (by rfl))) (by rfl)
theorem u2_220 : Cond.static yX11_outside ∈ UU := uu_of (tb2 (List.mem_of_getElem? (i := 220) (by rfl))) (by rfl)
theorem u2_221 : Cond.code yX11_outside cX11_outside 2 (some FieldType.boolean) ∈ UU := uu_of (tb2 (List.mem_of_getElem? (i := 221) (by rfl))) (by rfl)
theorem u2_222 : Cond.methodLink RL 18 yX11_singer ∈ UU := uu_of (tb2 (List.mem_of_getElem? (i := 222) (by rfl))) (by rfl)
theorem u2_223 : Cond.instanceMethod yX11_singer ∈ UU := uu_of (tb2 (List.mem_of_getElem? (i := 223) (by rfl))) (by rfl)
theorem u2_224 : Cond.selects RX11 yX11_singer yX11_singer ∈ UU := uu_of (tb2 (List.mem_of_getElem? (i := 224) (by rfl))) (by rfl)
theorem u2_225 : Cond.code yX11_singer cX11_singer 7 (some FieldType.int) ∈ UU := uu_of (tb2 (List.mem_of_getElem? (i := 225) (by rfl))) (by rfl)
theorem u2_226 : Cond.methodLink RX11 125 yX11_newSinger ∈ UU := uu_of (tb2 (List.mem_of_getElem? (i := 226) (by rfl))) (by rfl)
theorem u2_227 : Cond.static yX11_newSinger ∈ UU := uu_of (tb2 (List.mem_of_getElem? (i := 227) (by rfl))) (by rfl)
theorem u2_228 : Cond.code yX11_newSinger cX11_newSinger 4 (some (FieldType.object "NobodyBreathes$Singer")) ∈ UU := uu_of (tb2 (List.mem_of_getElem? (i := 228) (by rfl))) (by rfl)
theorem u2_229 : Cond.classLink RX11 257 RX8 ∈ UU := uu_of (tb2 (List.mem_of_getElem? (i := 229) (by rfl))) (by rfl)
theorem u2_230 : Cond.instantiable RX8 3 ∈ UU := uu_of (tb2 (List.mem_of_getElem? (i := 230) (by rfl))) (by rfl)
theorem u2_231 : Cond.methodLink RX11 259 yX8_init ∈ UU := uu_of (tb2 (List.mem_of_getElem? (i := 231) (by rfl))) (by rfl)
theorem u2_232 : Cond.instanceMethod yX8_init ∈ UU := uu_of (tb2 (List.mem_of_getElem? (i := 232) (by rfl))) (by rfl)
theorem u2_233 : Cond.code yX8_init cX8_init 4 none ∈ UU := uu_of (tb2 (List.mem_of_getElem? (i := 233) (by rfl))) (by rfl)
theorem u2_234 : Cond.methodLink RX8 1 yX7_init ∈ UU := uu_of (tb2 (List.mem_of_getElem? (i := 234) (by rfl))) (by rfl)
theorem u2_235 : Cond.instanceMethod yX7_init ∈ UU := uu_of (tb2 (List.mem_of_getElem? (i := 235) (by rfl))) (by rfl)
theorem u2_236 : Cond.code yX7_init cX7_init 4 none ∈ UU := uu_of (tb2 (List.mem_of_getElem? (i := 236) (by rfl))) (by rfl)
theorem u2_237 : Cond.methodLink RX7 1 ⟨"java/lang/Object", "<init>", "()V"⟩ ∈ UU := uu_of (tb2 (List.mem_of_getElem? (i := 237) (by rfl))) (by rfl)
theorem u2_238 : Cond.fieldLink RX7 7 RX7 "hold" "I" ∈ UU := uu_of (tb2 (List.mem_of_getElem? (i := 238) (by rfl))) (by rfl)
theorem u2_239 : Cond.fieldLink RX11 151 RX7 "hold" "I" ∈ UU := uu_of (tb2 (List.mem_of_getElem? (i := 239) (by rfl))) (by rfl)
theorem u3_0 : Cond.fieldLink RX7 13 RX7 "takes" "I" ∈ UU := uu_of (tb3 (List.mem_of_getElem? (i := 0) (by rfl))) (by rfl)
theorem u3_1 : Cond.fieldLink RX7 16 RX7 "number" "I" ∈ UU := uu_of (tb3 (List.mem_of_getElem? (i := 1) (by rfl))) (by rfl)
theorem u3_2 : Cond.fieldLink RX2 17 RX2 "number" "I" ∈ UU := uu_of (tb3 (List.mem_of_getElem? (i := 2) (by rfl))) (by rfl)
theorem u3_3 : Cond.sameField RX2 RX7 "number" "I" ∈ UU := uu_of (tb3 (List.mem_of_getElem? (i := 3) (by rfl))) (by rfl)
theorem u3_4 : Cond.fieldLink RX3 17 RX3 "number" "I" ∈ UU := uu_of (tb3 (List.mem_of_getElem? (i := 4) (by rfl))) (by rfl)
theorem u3_5 : Cond.sameField RX3 RX7 "number" "I" ∈ UU := uu_of (tb3 (List.mem_of_getElem? (i := 5) (by rfl))) (by rfl)
theorem u3_6 : Cond.fieldLink RX11 254 RX7 "number" "I" ∈ UU := uu_of (tb3 (List.mem_of_getElem? (i := 6) (by rfl))) (by rfl)
theorem u3_13 : Cond.superclass RX8 RX7 ∈ UU := uu_of (tb3 (List.mem_of_getElem? (i := 13) (by rfl))) (by rfl)
theorem u3_14 : Cond.classLink RX11 262 RX10 ∈ UU := uu_of (tb3 (List.mem_of_getElem? (i := 14) (by rfl))) (by rfl)
theorem u3_15 : Cond.instantiable RX10 3 ∈ UU := uu_of (tb3 (List.mem_of_getElem? (i := 15) (by rfl))) (by rfl)
theorem u3_16 : Cond.methodLink RX11 264 yX10_init ∈ UU := uu_of (tb3 (List.mem_of_getElem? (i := 16) (by rfl))) (by rfl)
theorem u3_17 : Cond.instanceMethod yX10_init ∈ UU := uu_of (tb3 (List.mem_of_getElem? (i := 17) (by rfl))) (by rfl)
theorem u3_18 : Cond.code yX10_init cX10_init 4 none ∈ UU := uu_of (tb3 (List.mem_of_getElem? (i := 18) (by rfl))) (by rfl)
theorem u3_19 : Cond.methodLink RX10 1 yX7_init ∈ UU := uu_of (tb3 (List.mem_of_getElem? (i := 19) (by rfl))) (by rfl)
theorem u3_23 : Cond.superclass RX10 RX7 ∈ UU := uu_of (tb3 (List.mem_of_getElem? (i := 23) (by rfl))) (by rfl)
theorem u3_24 : Cond.classLink RX11 265 RX3 ∈ UU := uu_of (tb3 (List.mem_of_getElem? (i := 24) (by rfl))) (by rfl)
theorem u3_25 : Cond.instantiable RX3 3 ∈ UU := uu_of (tb3 (List.mem_of_getElem? (i := 25) (by rfl))) (by rfl)
theorem u3_26 : Cond.methodLink RX11 267 yX3_init ∈ UU := uu_of (tb3 (List.mem_of_getElem? (i := 26) (by rfl))) (by rfl)
theorem u3_27 : Cond.instanceMethod yX3_init ∈ UU := uu_of (tb3 (List.mem_of_getElem? (i := 27) (by rfl))) (by rfl)
theorem u3_28 : Cond.code yX3_init cX3_init 4 none ∈ UU := uu_of (tb3 (List.mem_of_getElem? (i := 28) (by rfl))) (by rfl)
theorem u3_29 : Cond.methodLink RX3 1 yX10_init ∈ UU := uu_of (tb3 (List.mem_of_getElem? (i := 29) (by rfl))) (by rfl)
theorem u3_33 : Cond.superclass RX3 RX10 ∈ UU := uu_of (tb3 (List.mem_of_getElem? (i := 33) (by rfl))) (by rfl)
theorem u3_34 : Cond.classLink RX11 268 RX2 ∈ UU := uu_of (tb3 (List.mem_of_getElem? (i := 34) (by rfl))) (by rfl)
theorem u3_35 : Cond.instantiable RX2 3 ∈ UU := uu_of (tb3 (List.mem_of_getElem? (i := 35) (by rfl))) (by rfl)
theorem u3_36 : Cond.methodLink RX11 270 yX2_init ∈ UU := uu_of (tb3 (List.mem_of_getElem? (i := 36) (by rfl))) (by rfl)
theorem u3_37 : Cond.instanceMethod yX2_init ∈ UU := uu_of (tb3 (List.mem_of_getElem? (i := 37) (by rfl))) (by rfl)
theorem u3_38 : Cond.code yX2_init cX2_init 4 none ∈ UU := uu_of (tb3 (List.mem_of_getElem? (i := 38) (by rfl))) (by rfl)
theorem u3_39 : Cond.methodLink RX2 1 yX8_init ∈ UU := uu_of (tb3 (List.mem_of_getElem? (i := 39) (by rfl))) (by rfl)
theorem u3_43 : Cond.superclass RX2 RX8 ∈ UU := uu_of (tb3 (List.mem_of_getElem? (i := 43) (by rfl))) (by rfl)
theorem u3_44 : Cond.classLink RX11 271 RX0 ∈ UU := uu_of (tb3 (List.mem_of_getElem? (i := 44) (by rfl))) (by rfl)
theorem u3_45 : Cond.instantiable RX0 3 ∈ UU := uu_of (tb3 (List.mem_of_getElem? (i := 45) (by rfl))) (by rfl)
theorem u3_46 : Cond.methodLink RX11 273 yX0_init ∈ UU := uu_of (tb3 (List.mem_of_getElem? (i := 46) (by rfl))) (by rfl)
theorem u3_47 : Cond.instanceMethod yX0_init ∈ UU := uu_of (tb3 (List.mem_of_getElem? (i := 47) (by rfl))) (by rfl)
theorem u3_48 : Cond.code yX0_init cX0_init 4 none ∈ UU := uu_of (tb3 (List.mem_of_getElem? (i := 48) (by rfl))) (by rfl)
theorem u3_49 : Cond.methodLink RX0 1 yX7_init ∈ UU := uu_of (tb3 (List.mem_of_getElem? (i := 49) (by rfl))) (by rfl)
theorem u3_53 : Cond.superclass RX0 RX7 ∈ UU := uu_of (tb3 (List.mem_of_getElem? (i := 53) (by rfl))) (by rfl)
theorem u3_54 : Cond.instantiable RX7 3 ∈ UU := uu_of (tb3 (List.mem_of_getElem? (i := 54) (by rfl))) (by rfl)
theorem u3_55 : Cond.methodLink RX11 274 yX7_init ∈ UU := uu_of (tb3 (List.mem_of_getElem? (i := 55) (by rfl))) (by rfl)
theorem u3_59 : Cond.superclass RX7 "java/lang/Object" ∈ UU := uu_of (tb3 (List.mem_of_getElem? (i := 59) (by rfl))) (by rfl)
theorem u3_60 : Cond.methodLink RL 22 yX11_voice ∈ UU := uu_of (tb3 (List.mem_of_getElem? (i := 60) (by rfl))) (by rfl)
theorem u3_61 : Cond.instanceMethod yX11_voice ∈ UU := uu_of (tb3 (List.mem_of_getElem? (i := 61) (by rfl))) (by rfl)
theorem u3_62 : Cond.selects RX11 yX11_voice yX11_voice ∈ UU := uu_of (tb3 (List.mem_of_getElem? (i := 62) (by rfl))) (by rfl)
theorem u3_63 : Cond.code yX11_voice cX11_voice 3 (some FieldType.int) ∈ UU := uu_of (tb3 (List.mem_of_getElem? (i := 63) (by rfl))) (by rfl)
theorem u3_64 : Cond.methodLink RL 27 yX11_told ∈ UU := uu_of (tb3 (List.mem_of_getElem? (i := 64) (by rfl))) (by rfl)
theorem u3_65 : Cond.instanceMethod yX11_told ∈ UU := uu_of (tb3 (List.mem_of_getElem? (i := 65) (by rfl))) (by rfl)
theorem u3_66 : Cond.selects RX11 yX11_told yX11_told ∈ UU := uu_of (tb3 (List.mem_of_getElem? (i := 66) (by rfl))) (by rfl)
theorem u3_67 : Cond.code yX11_told cX11_told 7 (some FieldType.int) ∈ UU := uu_of (tb3 (List.mem_of_getElem? (i := 67) (by rfl))) (by rfl)
theorem u3_68 : Cond.methodLink RX11 132 yX7_kind ∈ UU := uu_of (tb3 (List.mem_of_getElem? (i := 68) (by rfl))) (by rfl)
theorem u3_69 : Cond.instanceMethod yX7_kind ∈ UU := uu_of (tb3 (List.mem_of_getElem? (i := 69) (by rfl))) (by rfl)
theorem u3_70 : Cond.selects RX7 yX7_kind yX7_kind ∈ UU := uu_of (tb3 (List.mem_of_getElem? (i := 70) (by rfl))) (by rfl)
theorem u3_71 : Cond.sameMethod RX7 RX7 "kind" "()I" ∈ UU := uu_of (tb3 (List.mem_of_getElem? (i := 71) (by rfl))) (by rfl)
theorem u3_72 : Cond.selects RX0 yX7_kind yX0_kind ∈ UU := uu_of (tb3 (List.mem_of_getElem? (i := 72) (by rfl))) (by rfl)
theorem u3_73 : Cond.instanceMethod yX0_kind ∈ UU := uu_of (tb3 (List.mem_of_getElem? (i := 73) (by rfl))) (by rfl)
theorem u3_74 : Cond.code yX0_kind cX0_kind 1 (some FieldType.int) ∈ UU := uu_of (tb3 (List.mem_of_getElem? (i := 74) (by rfl))) (by rfl)
theorem u3_75 : Cond.selects RX2 yX7_kind yX2_kind ∈ UU := uu_of (tb3 (List.mem_of_getElem? (i := 75) (by rfl))) (by rfl)
theorem u3_76 : Cond.instanceMethod yX2_kind ∈ UU := uu_of (tb3 (List.mem_of_getElem? (i := 76) (by rfl))) (by rfl)
theorem u3_77 : Cond.code yX2_kind cX2_kind 1 (some FieldType.int) ∈ UU := uu_of (tb3 (List.mem_of_getElem? (i := 77) (by rfl))) (by rfl)
theorem u3_78 : Cond.selects RX3 yX7_kind yX3_kind ∈ UU := uu_of (tb3 (List.mem_of_getElem? (i := 78) (by rfl))) (by rfl)
theorem u3_79 : Cond.instanceMethod yX3_kind ∈ UU := uu_of (tb3 (List.mem_of_getElem? (i := 79) (by rfl))) (by rfl)
theorem u3_80 : Cond.code yX3_kind cX3_kind 1 (some FieldType.int) ∈ UU := uu_of (tb3 (List.mem_of_getElem? (i := 80) (by rfl))) (by rfl)
theorem u3_81 : Cond.selects RX8 yX7_kind yX8_kind ∈ UU := uu_of (tb3 (List.mem_of_getElem? (i := 81) (by rfl))) (by rfl)
theorem u3_82 : Cond.instanceMethod yX8_kind ∈ UU := uu_of (tb3 (List.mem_of_getElem? (i := 82) (by rfl))) (by rfl)
theorem u3_83 : Cond.code yX8_kind cX8_kind 1 (some FieldType.int) ∈ UU := uu_of (tb3 (List.mem_of_getElem? (i := 83) (by rfl))) (by rfl)
theorem u3_84 : Cond.selects RX10 yX7_kind yX10_kind ∈ UU := uu_of (tb3 (List.mem_of_getElem? (i := 84) (by rfl))) (by rfl)
theorem u3_85 : Cond.instanceMethod yX10_kind ∈ UU := uu_of (tb3 (List.mem_of_getElem? (i := 85) (by rfl))) (by rfl)
theorem u3_86 : Cond.code yX10_kind cX10_kind 1 (some FieldType.int) ∈ UU := uu_of (tb3 (List.mem_of_getElem? (i := 86) (by rfl))) (by rfl)
theorem u3_87 : Cond.code yX7_kind cX7_kind 1 (some FieldType.int) ∈ UU := uu_of (tb3 (List.mem_of_getElem? (i := 87) (by rfl))) (by rfl)
theorem u3_88 : Cond.methodLink RX11 135 yX7_canHold ∈ UU := uu_of (tb3 (List.mem_of_getElem? (i := 88) (by rfl))) (by rfl)
theorem u3_89 : Cond.instanceMethod yX7_canHold ∈ UU := uu_of (tb3 (List.mem_of_getElem? (i := 89) (by rfl))) (by rfl)
theorem u3_90 : Cond.selects RX7 yX7_canHold yX7_canHold ∈ UU := uu_of (tb3 (List.mem_of_getElem? (i := 90) (by rfl))) (by rfl)
theorem u3_91 : Cond.sameMethod RX7 RX7 "canHold" "(II)I" ∈ UU := uu_of (tb3 (List.mem_of_getElem? (i := 91) (by rfl))) (by rfl)
theorem u3_92 : Cond.selects RX0 yX7_canHold yX7_canHold ∈ UU := uu_of (tb3 (List.mem_of_getElem? (i := 92) (by rfl))) (by rfl)
theorem u3_93 : Cond.selects RX2 yX7_canHold yX7_canHold ∈ UU := uu_of (tb3 (List.mem_of_getElem? (i := 93) (by rfl))) (by rfl)
theorem u3_94 : Cond.selects RX3 yX7_canHold yX7_canHold ∈ UU := uu_of (tb3 (List.mem_of_getElem? (i := 94) (by rfl))) (by rfl)
theorem u3_95 : Cond.selects RX8 yX7_canHold yX7_canHold ∈ UU := uu_of (tb3 (List.mem_of_getElem? (i := 95) (by rfl))) (by rfl)
theorem u3_96 : Cond.selects RX10 yX7_canHold yX7_canHold ∈ UU := uu_of (tb3 (List.mem_of_getElem? (i := 96) (by rfl))) (by rfl)
theorem u3_97 : Cond.code yX7_canHold cX7_canHold 3 (some FieldType.int) ∈ UU := uu_of (tb3 (List.mem_of_getElem? (i := 97) (by rfl))) (by rfl)
theorem u3_98 : Cond.methodLink RX7 19 yX7_reach ∈ UU := uu_of (tb3 (List.mem_of_getElem? (i := 98) (by rfl))) (by rfl)
theorem u3_99 : Cond.instanceMethod yX7_reach ∈ UU := uu_of (tb3 (List.mem_of_getElem? (i := 99) (by rfl))) (by rfl)
theorem u3_100 : Cond.selects RX7 yX7_reach yX7_reach ∈ UU := uu_of (tb3 (List.mem_of_getElem? (i := 100) (by rfl))) (by rfl)
theorem u3_101 : Cond.sameMethod RX7 RX7 "reach" "(II)I" ∈ UU := uu_of (tb3 (List.mem_of_getElem? (i := 101) (by rfl))) (by rfl)
theorem u3_102 : Cond.selects RX0 yX7_reach yX0_reach ∈ UU := uu_of (tb3 (List.mem_of_getElem? (i := 102) (by rfl))) (by rfl)
theorem u3_103 : Cond.instanceMethod yX0_reach ∈ UU := uu_of (tb3 (List.mem_of_getElem? (i := 103) (by rfl))) (by rfl)
theorem u3_104 : Cond.code yX0_reach cX0_reach 3 (some FieldType.int) ∈ UU := uu_of (tb3 (List.mem_of_getElem? (i := 104) (by rfl))) (by rfl)
theorem u3_105 : Cond.methodLink RX0 13 yX7_reach ∈ UU := uu_of (tb3 (List.mem_of_getElem? (i := 105) (by rfl))) (by rfl)
theorem u3_106 : Cond.selects RX2 yX7_reach yX2_reach ∈ UU := uu_of (tb3 (List.mem_of_getElem? (i := 106) (by rfl))) (by rfl)
theorem u3_107 : Cond.instanceMethod yX2_reach ∈ UU := uu_of (tb3 (List.mem_of_getElem? (i := 107) (by rfl))) (by rfl)
theorem u3_108 : Cond.code yX2_reach cX2_reach 3 (some FieldType.int) ∈ UU := uu_of (tb3 (List.mem_of_getElem? (i := 108) (by rfl))) (by rfl)
theorem u3_109 : Cond.methodLink RX2 13 yX8_reach ∈ UU := uu_of (tb3 (List.mem_of_getElem? (i := 109) (by rfl))) (by rfl)
theorem u3_110 : Cond.instanceMethod yX8_reach ∈ UU := uu_of (tb3 (List.mem_of_getElem? (i := 110) (by rfl))) (by rfl)
theorem u3_111 : Cond.code yX8_reach cX8_reach 3 (some FieldType.int) ∈ UU := uu_of (tb3 (List.mem_of_getElem? (i := 111) (by rfl))) (by rfl)
theorem u3_112 : Cond.methodLink RX8 13 yX7_reach ∈ UU := uu_of (tb3 (List.mem_of_getElem? (i := 112) (by rfl))) (by rfl)
theorem u3_113 : Cond.selects RX3 yX7_reach yX3_reach ∈ UU := uu_of (tb3 (List.mem_of_getElem? (i := 113) (by rfl))) (by rfl)
theorem u3_114 : Cond.instanceMethod yX3_reach ∈ UU := uu_of (tb3 (List.mem_of_getElem? (i := 114) (by rfl))) (by rfl)
theorem u3_115 : Cond.code yX3_reach cX3_reach 3 (some FieldType.int) ∈ UU := uu_of (tb3 (List.mem_of_getElem? (i := 115) (by rfl))) (by rfl)
theorem u3_116 : Cond.methodLink RX3 13 yX10_reach ∈ UU := uu_of (tb3 (List.mem_of_getElem? (i := 116) (by rfl))) (by rfl)
theorem u3_117 : Cond.instanceMethod yX10_reach ∈ UU := uu_of (tb3 (List.mem_of_getElem? (i := 117) (by rfl))) (by rfl)
theorem u3_118 : Cond.code yX10_reach cX10_reach 3 (some FieldType.int) ∈ UU := uu_of (tb3 (List.mem_of_getElem? (i := 118) (by rfl))) (by rfl)
theorem u3_119 : Cond.methodLink RX10 13 yX7_reach ∈ UU := uu_of (tb3 (List.mem_of_getElem? (i := 119) (by rfl))) (by rfl)
theorem u3_120 : Cond.selects RX8 yX7_reach yX8_reach ∈ UU := uu_of (tb3 (List.mem_of_getElem? (i := 120) (by rfl))) (by rfl)
theorem u3_121 : Cond.selects RX10 yX7_reach yX10_reach ∈ UU := uu_of (tb3 (List.mem_of_getElem? (i := 121) (by rfl))) (by rfl)
theorem u3_122 : Cond.code yX7_reach cX7_reach 3 (some FieldType.int) ∈ UU := uu_of (tb3 (List.mem_of_getElem? (i := 122) (by rfl))) (by rfl)
theorem u3_123 : Cond.methodLink RX7 23 yJ9_max_7cf53 ∈ UU := uu_of (tb3 (List.mem_of_getElem? (i := 123) (by rfl))) (by rfl)
theorem u3_124 : Cond.methodLink RX11 139 yX7_silentSteps ∈ UU := uu_of (tb3 (List.mem_of_getElem? (i := 124) (by rfl))) (by rfl)
theorem u3_125 : Cond.instanceMethod yX7_silentSteps ∈ UU := uu_of (tb3 (List.mem_of_getElem? (i := 125) (by rfl))) (by rfl)
theorem u3_126 : Cond.selects RX7 yX7_silentSteps yX7_silentSteps ∈ UU := uu_of (tb3 (List.mem_of_getElem? (i := 126) (by rfl))) (by rfl)
theorem u3_127 : Cond.sameMethod RX7 RX7 "silentSteps" "(I)I" ∈ UU := uu_of (tb3 (List.mem_of_getElem? (i := 127) (by rfl))) (by rfl)
theorem u3_128 : Cond.selects RX0 yX7_silentSteps yX0_silentSteps ∈ UU := uu_of (tb3 (List.mem_of_getElem? (i := 128) (by rfl))) (by rfl)
theorem u3_129 : Cond.instanceMethod yX0_silentSteps ∈ UU := uu_of (tb3 (List.mem_of_getElem? (i := 129) (by rfl))) (by rfl)
theorem u3_130 : Cond.code yX0_silentSteps cX0_silentSteps 2 (some FieldType.int) ∈ UU := uu_of (tb3 (List.mem_of_getElem? (i := 130) (by rfl))) (by rfl)
theorem u3_131 : Cond.methodLink RX0 17 yX7_silentSteps ∈ UU := uu_of (tb3 (List.mem_of_getElem? (i := 131) (by rfl))) (by rfl)
theorem u3_132 : Cond.selects RX2 yX7_silentSteps yX7_silentSteps ∈ UU := uu_of (tb3 (List.mem_of_getElem? (i := 132) (by rfl))) (by rfl)
theorem u3_133 : Cond.selects RX3 yX7_silentSteps yX10_silentSteps ∈ UU := uu_of (tb3 (List.mem_of_getElem? (i := 133) (by rfl))) (by rfl)
theorem u3_134 : Cond.instanceMethod yX10_silentSteps ∈ UU := uu_of (tb3 (List.mem_of_getElem? (i := 134) (by rfl))) (by rfl)
theorem u3_135 : Cond.code yX10_silentSteps cX10_silentSteps 2 (some FieldType.int) ∈ UU := uu_of (tb3 (List.mem_of_getElem? (i := 135) (by rfl))) (by rfl)
theorem u3_136 : Cond.methodLink RX10 17 yX7_silentSteps ∈ UU := uu_of (tb3 (List.mem_of_getElem? (i := 136) (by rfl))) (by rfl)
theorem v3_137 : Cond.methodLinkNest RX10 21 yX11_truth RX11 ∈ lw_tbl := List.mem_append_right _ (tb3 (List.mem_of_getElem? (i := 137) (by rfl)))
theorem u3_138 : Cond.static yX11_truth ∈ UU := uu_of (tb3 (List.mem_of_getElem? (i := 138) (by rfl))) (by rfl)
theorem u3_139 : Cond.code yX11_truth cX11_truth 1 (some FieldType.int) ∈ UU := uu_of (tb3 (List.mem_of_getElem? (i := 139) (by rfl))) (by rfl)
theorem u3_140 : Cond.selects RX8 yX7_silentSteps yX7_silentSteps ∈ UU := uu_of (tb3 (List.mem_of_getElem? (i := 140) (by rfl))) (by rfl)
theorem u3_141 : Cond.selects RX10 yX7_silentSteps yX10_silentSteps ∈ UU := uu_of (tb3 (List.mem_of_getElem? (i := 141) (by rfl))) (by rfl)
theorem u3_142 : Cond.code yX7_silentSteps cX7_silentSteps 2 (some FieldType.int) ∈ UU := uu_of (tb3 (List.mem_of_getElem? (i := 142) (by rfl))) (by rfl)
theorem u3_143 : Cond.methodLink RX11 143 yX7_says ∈ UU := uu_of (tb3 (List.mem_of_getElem? (i := 143) (by rfl))) (by rfl)
theorem u3_144 : Cond.instanceMethod yX7_says ∈ UU := uu_of (tb3 (List.mem_of_getElem? (i := 144) (by rfl))) (by rfl)
theorem u3_145 : Cond.selects RX7 yX7_says yX7_says ∈ UU := uu_of (tb3 (List.mem_of_getElem? (i := 145) (by rfl))) (by rfl)
theorem u3_146 : Cond.sameMethod RX7 RX7 "says" "(I)Z" ∈ UU := uu_of (tb3 (List.mem_of_getElem? (i := 146) (by rfl))) (by rfl)
theorem u3_147 : Cond.selects RX0 yX7_says yX0_says ∈ UU := uu_of (tb3 (List.mem_of_getElem? (i := 147) (by rfl))) (by rfl)
theorem u3_148 : Cond.instanceMethod yX0_says ∈ UU := uu_of (tb3 (List.mem_of_getElem? (i := 148) (by rfl))) (by rfl)
theorem u3_149 : Cond.code yX0_says cX0_says 2 (some FieldType.boolean) ∈ UU := uu_of (tb3 (List.mem_of_getElem? (i := 149) (by rfl))) (by rfl)
theorem u3_150 : Cond.selects RX2 yX7_says yX8_says ∈ UU := uu_of (tb3 (List.mem_of_getElem? (i := 150) (by rfl))) (by rfl)
theorem u3_151 : Cond.instanceMethod yX8_says ∈ UU := uu_of (tb3 (List.mem_of_getElem? (i := 151) (by rfl))) (by rfl)
theorem u3_152 : Cond.code yX8_says cX8_says 2 (some FieldType.boolean) ∈ UU := uu_of (tb3 (List.mem_of_getElem? (i := 152) (by rfl))) (by rfl)
theorem u3_153 : Cond.selects RX3 yX7_says yX3_says ∈ UU := uu_of (tb3 (List.mem_of_getElem? (i := 153) (by rfl))) (by rfl)
theorem u3_154 : Cond.instanceMethod yX3_says ∈ UU := uu_of (tb3 (List.mem_of_getElem? (i := 154) (by rfl))) (by rfl)
theorem u3_155 : Cond.code yX3_says cX3_says 2 (some FieldType.boolean) ∈ UU := uu_of (tb3 (List.mem_of_getElem? (i := 155) (by rfl))) (by rfl)
theorem u3_156 : Cond.methodLink RX3 21 ⟨RX10, "says", "(I)Z"⟩ ∈ UU := uu_of (tb3 (List.mem_of_getElem? (i := 156) (by rfl))) (by rfl)
theorem u3_157 : Cond.sameMethod RX10 RX7 "says" "(I)Z" ∈ UU := uu_of (tb3 (List.mem_of_getElem? (i := 157) (by rfl))) (by rfl)
theorem u3_159 : Cond.selects RX8 yX7_says yX8_says ∈ UU := uu_of (tb3 (List.mem_of_getElem? (i := 159) (by rfl))) (by rfl)
theorem u3_160 : Cond.selects RX10 yX7_says yX7_says ∈ UU := uu_of (tb3 (List.mem_of_getElem? (i := 160) (by rfl))) (by rfl)
theorem u3_161 : Cond.code yX7_says cX7_says 2 (some FieldType.boolean) ∈ UU := uu_of (tb3 (List.mem_of_getElem? (i := 161) (by rfl))) (by rfl)
theorem u3_162 : Cond.methodLink RX11 147 yX11_truth ∈ UU := uu_of (tb3 (List.mem_of_getElem? (i := 162) (by rfl))) (by rfl)
theorem u3_163 : Cond.methodLink RL 34 yX11_feed ∈ UU := uu_of (tb3 (List.mem_of_getElem? (i := 163) (by rfl))) (by rfl)
theorem u3_164 : Cond.instanceMethod yX11_feed ∈ UU := uu_of (tb3 (List.mem_of_getElem? (i := 164) (by rfl))) (by rfl)
theorem u3_165 : Cond.selects RX11 yX11_feed yX11_feed ∈ UU := uu_of (tb3 (List.mem_of_getElem? (i := 165) (by rfl))) (by rfl)
theorem u3_166 : Cond.code yX11_feed cX11_feed 5 (some FieldType.int) ∈ UU := uu_of (tb3 (List.mem_of_getElem? (i := 166) (by rfl))) (by rfl)
theorem u3_167 : Cond.methodLink RL 39 yX11_text ∈ UU := uu_of (tb3 (List.mem_of_getElem? (i := 167) (by rfl))) (by rfl)
theorem u3_168 : Cond.instanceMethod yX11_text ∈ UU := uu_of (tb3 (List.mem_of_getElem? (i := 168) (by rfl))) (by rfl)
theorem u3_169 : Cond.selects RX11 yX11_text yX11_text ∈ UU := uu_of (tb3 (List.mem_of_getElem? (i := 169) (by rfl))) (by rfl)
theorem u3_170 : Cond.code yX11_text cX11_text 3 (some FieldType.int) ∈ UU := uu_of (tb3 (List.mem_of_getElem? (i := 170) (by rfl))) (by rfl)
theorem u3_171 : Cond.methodLink RL 44 yX11_force ∈ UU := uu_of (tb3 (List.mem_of_getElem? (i := 171) (by rfl))) (by rfl)
theorem u3_172 : Cond.instanceMethod yX11_force ∈ UU := uu_of (tb3 (List.mem_of_getElem? (i := 172) (by rfl))) (by rfl)
theorem u3_173 : Cond.selects RX11 yX11_force yX11_force ∈ UU := uu_of (tb3 (List.mem_of_getElem? (i := 173) (by rfl))) (by rfl)
theorem u3_174 : Cond.code yX11_force cX11_force 3 (some FieldType.int) ∈ UU := uu_of (tb3 (List.mem_of_getElem? (i := 174) (by rfl))) (by rfl)
theorem u3_175 : Cond.methodLink RL 49 yX11_sing ∈ UU := uu_of (tb3 (List.mem_of_getElem? (i := 175) (by rfl))) (by rfl)
theorem u3_176 : Cond.instanceMethod yX11_sing ∈ UU := uu_of (tb3 (List.mem_of_getElem? (i := 176) (by rfl))) (by rfl)
theorem u3_177 : Cond.selects RX11 yX11_sing yX11_sing ∈ UU := uu_of (tb3 (List.mem_of_getElem? (i := 177) (by rfl))) (by rfl)
theorem u3_178 : Cond.code yX11_sing cX11_sing 3 (some FieldType.int) ∈ UU := uu_of (tb3 (List.mem_of_getElem? (i := 178) (by rfl))) (by rfl)
theorem u3_179 : Cond.methodLink RX11 161 yX11_isMissing ∈ UU := uu_of (tb3 (List.mem_of_getElem? (i := 179) (by rfl))) (by rfl)
theorem u3_181 : Cond.instanceMethod yX11_isMissing ∈ UU := uu_of (tb3 (List.mem_of_getElem? (i := 181) (by rfl))) (by rfl)
theorem u3_182 : Cond.code yX11_isMissing cX11_isMissing 2 (some FieldType.boolean) ∈ UU := uu_of (tb3 (List.mem_of_getElem? (i := 182) (by rfl))) (by rfl)
theorem u3_183 : Cond.methodLink RX11 275 yX11_isPlan ∈ UU := uu_of (tb3 (List.mem_of_getElem? (i := 183) (by rfl))) (by rfl)
theorem u3_184 : Cond.static yX11_isPlan ∈ UU := uu_of (tb3 (List.mem_of_getElem? (i := 184) (by rfl))) (by rfl)
theorem u3_185 : Cond.code yX11_isPlan cX11_isPlan 1 (some FieldType.boolean) ∈ UU := uu_of (tb3 (List.mem_of_getElem? (i := 185) (by rfl))) (by rfl)
theorem u3_186 : Cond.methodLink RX11 208 yX6_isMissing ∈ UU := uu_of (tb3 (List.mem_of_getElem? (i := 186) (by rfl))) (by rfl)
theorem u3_187 : Cond.instanceMethod yX6_isMissing ∈ UU := uu_of (tb3 (List.mem_of_getElem? (i := 187) (by rfl))) (by rfl)
theorem u3_188 : Cond.selects RX6 yX6_isMissing yX6_isMissing ∈ UU := uu_of (tb3 (List.mem_of_getElem? (i := 188) (by rfl))) (by rfl)
theorem u3_189 : Cond.code yX6_isMissing cX6_isMissing 1 (some FieldType.boolean) ∈ UU := uu_of (tb3 (List.mem_of_getElem? (i := 189) (by rfl))) (by rfl)
theorem u3_190 : Cond.methodLink RX11 164 yX11_perform ∈ UU := uu_of (tb3 (List.mem_of_getElem? (i := 190) (by rfl))) (by rfl)
theorem u3_192 : Cond.instanceMethod yX11_perform ∈ UU := uu_of (tb3 (List.mem_of_getElem? (i := 192) (by rfl))) (by rfl)
theorem u3_193 : Cond.code yX11_perform cX11_perform 4 none ∈ UU := uu_of (tb3 (List.mem_of_getElem? (i := 193) (by rfl))) (by rfl)
theorem u3_194 : Cond.methodLink RX11 174 yX11_prepare ∈ UU := uu_of (tb3 (List.mem_of_getElem? (i := 194) (by rfl))) (by rfl)
theorem u3_196 : Cond.instanceMethod yX11_prepare ∈ UU := uu_of (tb3 (List.mem_of_getElem? (i := 196) (by rfl))) (by rfl)
theorem u3_197 : Cond.code yX11_prepare cX11_prepare 2 none ∈ UU := uu_of (tb3 (List.mem_of_getElem? (i := 197) (by rfl))) (by rfl)
theorem u3_198 : Cond.methodLink RX11 278 yX1_choose ∈ UU := uu_of (tb3 (List.mem_of_getElem? (i := 198) (by rfl))) (by rfl)
theorem u3_199 : Cond.instanceMethod yX1_choose ∈ UU := uu_of (tb3 (List.mem_of_getElem? (i := 199) (by rfl))) (by rfl)
theorem u3_200 : Cond.selects RX1 yX1_choose yX1_choose ∈ UU := uu_of (tb3 (List.mem_of_getElem? (i := 200) (by rfl))) (by rfl)
theorem u3_201 : Cond.code yX1_choose cX1_choose 4 none ∈ UU := uu_of (tb3 (List.mem_of_getElem? (i := 201) (by rfl))) (by rfl)
theorem u3_202 : Cond.methodLink RX11 282 yX1_readPlan ∈ UU := uu_of (tb3 (List.mem_of_getElem? (i := 202) (by rfl))) (by rfl)
theorem u3_203 : Cond.instanceMethod yX1_readPlan ∈ UU := uu_of (tb3 (List.mem_of_getElem? (i := 203) (by rfl))) (by rfl)
theorem u3_204 : Cond.selects RX1 yX1_readPlan yX1_readPlan ∈ UU := uu_of (tb3 (List.mem_of_getElem? (i := 204) (by rfl))) (by rfl)
theorem u3_205 : Cond.code yX1_readPlan cX1_readPlan 5 none ∈ UU := uu_of (tb3 (List.mem_of_getElem? (i := 205) (by rfl))) (by rfl)
theorem u3_206 : Cond.methodLink RX1 64 yJ7_fill_d0a16 ∈ UU := uu_of (tb3 (List.mem_of_getElem? (i := 206) (by rfl))) (by rfl)
theorem u3_207 : Cond.static yJ7_fill_d0a16 ∈ UU := uu_of (tb3 (List.mem_of_getElem? (i := 207) (by rfl))) (by rfl)
theorem u3_208 : Cond.code yJ7_fill_d0a16 cJ7_fill_d0a16 5 none ∈ UU := uu_of (tb3 (List.mem_of_getElem? (i := 208) (by rfl))) (by rfl)
theorem v3_209 : Cond.methodLinkNest RX1 78 yX11_outside RX11 ∈ lw_tbl := List.mem_append_right _ (tb3 (List.mem_of_getElem? (i := 209) (by rfl)))
theorem u3_210 : Cond.methodLink RX11 286 yX1_start ∈ UU := uu_of (tb3 (List.mem_of_getElem? (i := 210) (by rfl))) (by rfl)
theorem u3_211 : Cond.instanceMethod yX1_start ∈ UU := uu_of (tb3 (List.mem_of_getElem? (i := 211) (by rfl))) (by rfl)
theorem u3_212 : Cond.selects RX1 yX1_start yX1_start ∈ UU := uu_of (tb3 (List.mem_of_getElem? (i := 212) (by rfl))) (by rfl)
theorem u3_213 : Cond.code yX1_start cX1_start 2 none ∈ UU := uu_of (tb3 (List.mem_of_getElem? (i := 213) (by rfl))) (by rfl)
theorem u3_214 : Cond.methodLink RX1 82 yJ7_fill_53178 ∈ UU := uu_of (tb3 (List.mem_of_getElem? (i := 214) (by rfl))) (by rfl)
theorem u3_215 : Cond.methodLink RX11 177 yX1_advance ∈ UU := uu_of (tb3 (List.mem_of_getElem? (i := 215) (by rfl))) (by rfl)
theorem u3_216 : Cond.instanceMethod yX1_advance ∈ UU := uu_of (tb3 (List.mem_of_getElem? (i := 216) (by rfl))) (by rfl)
theorem u3_217 : Cond.selects RX1 yX1_advance yX1_advance ∈ UU := uu_of (tb3 (List.mem_of_getElem? (i := 217) (by rfl))) (by rfl)
theorem u3_218 : Cond.code yX1_advance cX1_advance 5 none ∈ UU := uu_of (tb3 (List.mem_of_getElem? (i := 218) (by rfl))) (by rfl)
theorem u3_219 : Cond.methodLink RX1 93 yX1_begins ∈ UU := uu_of (tb3 (List.mem_of_getElem? (i := 219) (by rfl))) (by rfl)
theorem u3_221 : Cond.instanceMethod yX1_begins ∈ UU := uu_of (tb3 (List.mem_of_getElem? (i := 221) (by rfl))) (by rfl)
theorem u3_222 : Cond.code yX1_begins cX1_begins 4 (some FieldType.boolean) ∈ UU := uu_of (tb3 (List.mem_of_getElem? (i := 222) (by rfl))) (by rfl)
theorem v3_223 : Cond.methodLinkNest RX1 112 yX11_isPlan RX11 ∈ lw_tbl := List.mem_append_right _ (tb3 (List.mem_of_getElem? (i := 223) (by rfl)))
theorem u3_224 : Cond.constantLong RX1 116 2 ∈ UU := uu_of (tb3 (List.mem_of_getElem? (i := 224) (by rfl))) (by rfl)
theorem u3_225 : Cond.methodLink RX1 118 yX7_canHold ∈ UU := uu_of (tb3 (List.mem_of_getElem? (i := 225) (by rfl))) (by rfl)
theorem u3_226 : Cond.methodLink RX1 122 yX1_ruleTells ∈ UU := uu_of (tb3 (List.mem_of_getElem? (i := 226) (by rfl))) (by rfl)
theorem u3_228 : Cond.instanceMethod yX1_ruleTells ∈ UU := uu_of (tb3 (List.mem_of_getElem? (i := 228) (by rfl))) (by rfl)
theorem u3_229 : Cond.code yX1_ruleTells cX1_ruleTells 7 (some FieldType.boolean) ∈ UU := uu_of (tb3 (List.mem_of_getElem? (i := 229) (by rfl))) (by rfl)
theorem u3_230 : Cond.methodLink RX1 125 yJ6_bitCount_0f7a4 ∈ UU := uu_of (tb3 (List.mem_of_getElem? (i := 230) (by rfl))) (by rfl)
theorem u3_231 : Cond.static yJ6_bitCount_0f7a4 ∈ UU := uu_of (tb3 (List.mem_of_getElem? (i := 231) (by rfl))) (by rfl)
theorem u3_232 : Cond.code yJ6_bitCount_0f7a4 cJ6_bitCount_0f7a4 1 (some FieldType.int) ∈ UU := uu_of (tb3 (List.mem_of_getElem? (i := 232) (by rfl))) (by rfl)
theorem u3_233 : Cond.constant RJ6 265 1431655765 ∈ UU := uu_of (tb3 (List.mem_of_getElem? (i := 233) (by rfl))) (by rfl)
theorem u3_234 : Cond.constant RJ6 266 858993459 ∈ UU := uu_of (tb3 (List.mem_of_getElem? (i := 234) (by rfl))) (by rfl)
theorem u3_235 : Cond.constant RJ6 267 252645135 ∈ UU := uu_of (tb3 (List.mem_of_getElem? (i := 235) (by rfl))) (by rfl)
theorem u3_236 : Cond.methodLink RX1 130 yX1_isSilent ∈ UU := uu_of (tb3 (List.mem_of_getElem? (i := 236) (by rfl))) (by rfl)
theorem u3_238 : Cond.instanceMethod yX1_isSilent ∈ UU := uu_of (tb3 (List.mem_of_getElem? (i := 238) (by rfl))) (by rfl)
theorem u3_239 : Cond.code yX1_isSilent cX1_isSilent 2 (some FieldType.boolean) ∈ UU := uu_of (tb3 (List.mem_of_getElem? (i := 239) (by rfl))) (by rfl)
theorem v4_0 : Cond.methodLinkNest RX1 133 yX11_truth RX11 ∈ lw_tbl := List.mem_append_right _ (tb4 (List.mem_of_getElem? (i := 0) (by rfl)))
theorem u4_1 : Cond.methodLink RX1 137 yX1_listen ∈ UU := uu_of (tb4 (List.mem_of_getElem? (i := 1) (by rfl))) (by rfl)
theorem u4_3 : Cond.instanceMethod yX1_listen ∈ UU := uu_of (tb4 (List.mem_of_getElem? (i := 3) (by rfl))) (by rfl)
theorem u4_4 : Cond.code yX1_listen cX1_listen 3 none ∈ UU := uu_of (tb4 (List.mem_of_getElem? (i := 4) (by rfl))) (by rfl)
theorem u4_5 : Cond.methodLink RX1 143 yX9_valueOf ∈ UU := uu_of (tb4 (List.mem_of_getElem? (i := 5) (by rfl))) (by rfl)
theorem u4_6 : Cond.instanceMethod yX9_valueOf ∈ UU := uu_of (tb4 (List.mem_of_getElem? (i := 6) (by rfl))) (by rfl)
theorem u4_7 : Cond.selects RX9 yX9_valueOf yX9_valueOf ∈ UU := uu_of (tb4 (List.mem_of_getElem? (i := 7) (by rfl))) (by rfl)
theorem u4_8 : Cond.code yX9_valueOf cX9_valueOf 9 (some FieldType.int) ∈ UU := uu_of (tb4 (List.mem_of_getElem? (i := 8) (by rfl))) (by rfl)
theorem v4_9 : Cond.methodLinkNest RX9 21 yX11_outside RX11 ∈ lw_tbl := List.mem_append_right _ (tb4 (List.mem_of_getElem? (i := 9) (by rfl)))
theorem v4_10 : Cond.methodLinkNest RX9 27 yX11_truth RX11 ∈ lw_tbl := List.mem_append_right _ (tb4 (List.mem_of_getElem? (i := 10) (by rfl)))
theorem u4_11 : Cond.methodLink RX9 31 yX9_joined ∈ UU := uu_of (tb4 (List.mem_of_getElem? (i := 11) (by rfl))) (by rfl)
theorem u4_12 : Cond.static yX9_joined ∈ UU := uu_of (tb4 (List.mem_of_getElem? (i := 12) (by rfl))) (by rfl)
theorem u4_13 : Cond.code yX9_joined cX9_joined 3 (some FieldType.int) ∈ UU := uu_of (tb4 (List.mem_of_getElem? (i := 13) (by rfl))) (by rfl)
theorem u4_14 : Cond.methodLink RX1 97 yX7_silentSteps ∈ UU := uu_of (tb4 (List.mem_of_getElem? (i := 14) (by rfl))) (by rfl)
theorem u4_15 : Cond.methodLink RX1 103 yX1_howMany ∈ UU := uu_of (tb4 (List.mem_of_getElem? (i := 15) (by rfl))) (by rfl)
theorem u4_16 : Cond.instanceMethod yX1_howMany ∈ UU := uu_of (tb4 (List.mem_of_getElem? (i := 16) (by rfl))) (by rfl)
theorem u4_17 : Cond.selects RX1 yX1_howMany yX1_howMany ∈ UU := uu_of (tb4 (List.mem_of_getElem? (i := 17) (by rfl))) (by rfl)
theorem u4_18 : Cond.code yX1_howMany cX1_howMany 2 (some FieldType.int) ∈ UU := uu_of (tb4 (List.mem_of_getElem? (i := 18) (by rfl))) (by rfl)
theorem u4_19 : Cond.methodLink RL 53 yX11_of ∈ UU := uu_of (tb4 (List.mem_of_getElem? (i := 19) (by rfl))) (by rfl)
theorem u4_20 : Cond.instanceMethod yX11_of ∈ UU := uu_of (tb4 (List.mem_of_getElem? (i := 20) (by rfl))) (by rfl)
theorem u4_21 : Cond.selects RX11 yX11_of yX11_of ∈ UU := uu_of (tb4 (List.mem_of_getElem? (i := 21) (by rfl))) (by rfl)
theorem u4_22 : Cond.code yX11_of cX11_of 4 (some FieldType.int) ∈ UU := uu_of (tb4 (List.mem_of_getElem? (i := 22) (by rfl))) (by rfl)
theorem u4_23 : Cond.methodLink RX11 171 yX1_howMany ∈ UU := uu_of (tb4 (List.mem_of_getElem? (i := 23) (by rfl))) (by rfl)
theorem u4_24 : Cond.methodLink RL 57 yX11_wrong ∈ UU := uu_of (tb4 (List.mem_of_getElem? (i := 24) (by rfl))) (by rfl)
theorem u4_25 : Cond.instanceMethod yX11_wrong ∈ UU := uu_of (tb4 (List.mem_of_getElem? (i := 25) (by rfl))) (by rfl)
theorem u4_26 : Cond.selects RX11 yX11_wrong yX11_wrong ∈ UU := uu_of (tb4 (List.mem_of_getElem? (i := 26) (by rfl))) (by rfl)
theorem u4_27 : Cond.code yX11_wrong cX11_wrong 4 (some FieldType.int) ∈ UU := uu_of (tb4 (List.mem_of_getElem? (i := 27) (by rfl))) (by rfl)
theorem u4_28 : Cond.methodLink RX11 180 yX1_wrongHere ∈ UU := uu_of (tb4 (List.mem_of_getElem? (i := 28) (by rfl))) (by rfl)
theorem u4_29 : Cond.instanceMethod yX1_wrongHere ∈ UU := uu_of (tb4 (List.mem_of_getElem? (i := 29) (by rfl))) (by rfl)
theorem u4_30 : Cond.selects RX1 yX1_wrongHere yX1_wrongHere ∈ UU := uu_of (tb4 (List.mem_of_getElem? (i := 30) (by rfl))) (by rfl)
theorem u4_31 : Cond.code yX1_wrongHere cX1_wrongHere 4 (some FieldType.int) ∈ UU := uu_of (tb4 (List.mem_of_getElem? (i := 31) (by rfl))) (by rfl)
theorem u4_32 : Cond.methodLink RX1 157 yX1_isHeard ∈ UU := uu_of (tb4 (List.mem_of_getElem? (i := 32) (by rfl))) (by rfl)
theorem u4_34 : Cond.instanceMethod yX1_isHeard ∈ UU := uu_of (tb4 (List.mem_of_getElem? (i := 34) (by rfl))) (by rfl)
theorem u4_35 : Cond.code yX1_isHeard cX1_isHeard 2 (some FieldType.boolean) ∈ UU := uu_of (tb4 (List.mem_of_getElem? (i := 35) (by rfl))) (by rfl)
theorem u4_36 : Cond.methodLink RX1 163 yX1_isSaid ∈ UU := uu_of (tb4 (List.mem_of_getElem? (i := 36) (by rfl))) (by rfl)
theorem u4_38 : Cond.instanceMethod yX1_isSaid ∈ UU := uu_of (tb4 (List.mem_of_getElem? (i := 38) (by rfl))) (by rfl)
theorem u4_39 : Cond.code yX1_isSaid cX1_isSaid 4 (some FieldType.boolean) ∈ UU := uu_of (tb4 (List.mem_of_getElem? (i := 39) (by rfl))) (by rfl)
theorem u4_40 : Cond.methodLink RX1 166 yX7_says ∈ UU := uu_of (tb4 (List.mem_of_getElem? (i := 40) (by rfl))) (by rfl)
theorem u4_41 : Cond.methodLink RL 61 yX11_bad ∈ UU := uu_of (tb4 (List.mem_of_getElem? (i := 41) (by rfl))) (by rfl)
theorem u4_42 : Cond.instanceMethod yX11_bad ∈ UU := uu_of (tb4 (List.mem_of_getElem? (i := 42) (by rfl))) (by rfl)
theorem u4_43 : Cond.selects RX11 yX11_bad yX11_bad ∈ UU := uu_of (tb4 (List.mem_of_getElem? (i := 43) (by rfl))) (by rfl)
theorem u4_44 : Cond.code yX11_bad cX11_bad 2 (some FieldType.long) ∈ UU := uu_of (tb4 (List.mem_of_getElem? (i := 44) (by rfl))) (by rfl)
theorem u4_45 : Cond.constantLong RX11 183 (-4611686018427387904) ∈ UU := uu_of (tb4 (List.mem_of_getElem? (i := 45) (by rfl))) (by rfl)
theorem u4_46 : Cond.methodLink RX11 185 yX1_weigh ∈ UU := uu_of (tb4 (List.mem_of_getElem? (i := 46) (by rfl))) (by rfl)
theorem u4_47 : Cond.instanceMethod yX1_weigh ∈ UU := uu_of (tb4 (List.mem_of_getElem? (i := 47) (by rfl))) (by rfl)
theorem u4_48 : Cond.selects RX1 yX1_weigh yX1_weigh ∈ UU := uu_of (tb4 (List.mem_of_getElem? (i := 48) (by rfl))) (by rfl)
theorem u4_49 : Cond.code yX1_weigh cX1_weigh 2 none ∈ UU := uu_of (tb4 (List.mem_of_getElem? (i := 49) (by rfl))) (by rfl)
theorem u4_50 : Cond.methodLink RX1 172 yJ9_min_7cf53 ∈ UU := uu_of (tb4 (List.mem_of_getElem? (i := 50) (by rfl))) (by rfl)
theorem u4_51 : Cond.methodLink RX1 177 yJ9_max_7cf53 ∈ UU := uu_of (tb4 (List.mem_of_getElem? (i := 51) (by rfl))) (by rfl)
theorem u4_52 : Cond.methodLink RX11 188 yX1_badOfAll ∈ UU := uu_of (tb4 (List.mem_of_getElem? (i := 52) (by rfl))) (by rfl)
theorem u4_53 : Cond.instanceMethod yX1_badOfAll ∈ UU := uu_of (tb4 (List.mem_of_getElem? (i := 53) (by rfl))) (by rfl)
theorem u4_54 : Cond.selects RX1 yX1_badOfAll yX1_badOfAll ∈ UU := uu_of (tb4 (List.mem_of_getElem? (i := 54) (by rfl))) (by rfl)
theorem u4_55 : Cond.code yX1_badOfAll cX1_badOfAll 5 (some FieldType.long) ∈ UU := uu_of (tb4 (List.mem_of_getElem? (i := 55) (by rfl))) (by rfl)
theorem u4_56 : Cond.methodLink RX1 180 yX1_start ∈ UU := uu_of (tb4 (List.mem_of_getElem? (i := 56) (by rfl))) (by rfl)
theorem u4_57 : Cond.methodLink RX1 183 yX1_advance ∈ UU := uu_of (tb4 (List.mem_of_getElem? (i := 57) (by rfl))) (by rfl)
theorem u4_58 : Cond.methodLink RL 66 yX11_breaths ∈ UU := uu_of (tb4 (List.mem_of_getElem? (i := 58) (by rfl))) (by rfl)
theorem u4_59 : Cond.instanceMethod yX11_breaths ∈ UU := uu_of (tb4 (List.mem_of_getElem? (i := 59) (by rfl))) (by rfl)
theorem u4_60 : Cond.selects RX11 yX11_breaths yX11_breaths ∈ UU := uu_of (tb4 (List.mem_of_getElem? (i := 60) (by rfl))) (by rfl)
theorem u4_61 : Cond.code yX11_breaths cX11_breaths 3 (some FieldType.int) ∈ UU := uu_of (tb4 (List.mem_of_getElem? (i := 61) (by rfl))) (by rfl)
theorem u4_62 : Cond.methodLink RX11 192 yX1_allBreaths ∈ UU := uu_of (tb4 (List.mem_of_getElem? (i := 62) (by rfl))) (by rfl)
theorem u4_63 : Cond.instanceMethod yX1_allBreaths ∈ UU := uu_of (tb4 (List.mem_of_getElem? (i := 63) (by rfl))) (by rfl)
theorem u4_64 : Cond.selects RX1 yX1_allBreaths yX1_allBreaths ∈ UU := uu_of (tb4 (List.mem_of_getElem? (i := 64) (by rfl))) (by rfl)
theorem u4_65 : Cond.code yX1_allBreaths cX1_allBreaths 1 (some FieldType.int) ∈ UU := uu_of (tb4 (List.mem_of_getElem? (i := 65) (by rfl))) (by rfl)
theorem v4_66 : Cond.methodLinkNest RX1 150 yX11_sumOf RX11 ∈ lw_tbl := List.mem_append_right _ (tb4 (List.mem_of_getElem? (i := 66) (by rfl)))
theorem u4_67 : Cond.static yX11_sumOf ∈ UU := uu_of (tb4 (List.mem_of_getElem? (i := 67) (by rfl))) (by rfl)
theorem u4_68 : Cond.code yX11_sumOf cX11_sumOf 4 (some FieldType.int) ∈ UU := uu_of (tb4 (List.mem_of_getElem? (i := 68) (by rfl))) (by rfl)
theorem u4_69 : Cond.methodLink RL 70 yX11_fewest ∈ UU := uu_of (tb4 (List.mem_of_getElem? (i := 69) (by rfl))) (by rfl)
theorem u4_70 : Cond.instanceMethod yX11_fewest ∈ UU := uu_of (tb4 (List.mem_of_getElem? (i := 70) (by rfl))) (by rfl)
theorem u4_71 : Cond.selects RX11 yX11_fewest yX11_fewest ∈ UU := uu_of (tb4 (List.mem_of_getElem? (i := 71) (by rfl))) (by rfl)
theorem u4_72 : Cond.code yX11_fewest cX11_fewest 4 (some FieldType.int) ∈ UU := uu_of (tb4 (List.mem_of_getElem? (i := 72) (by rfl))) (by rfl)
theorem u4_73 : Cond.methodLink RL 74 yX11_round ∈ UU := uu_of (tb4 (List.mem_of_getElem? (i := 73) (by rfl))) (by rfl)
theorem u4_74 : Cond.instanceMethod yX11_round ∈ UU := uu_of (tb4 (List.mem_of_getElem? (i := 74) (by rfl))) (by rfl)
theorem u4_75 : Cond.selects RX11 yX11_round yX11_round ∈ UU := uu_of (tb4 (List.mem_of_getElem? (i := 75) (by rfl))) (by rfl)
theorem u4_76 : Cond.code yX11_round cX11_round 6 (some FieldType.int) ∈ UU := uu_of (tb4 (List.mem_of_getElem? (i := 76) (by rfl))) (by rfl)
theorem u4_77 : Cond.methodLink RX11 198 yX1_stateOf ∈ UU := uu_of (tb4 (List.mem_of_getElem? (i := 77) (by rfl))) (by rfl)
theorem u4_78 : Cond.instanceMethod yX1_stateOf ∈ UU := uu_of (tb4 (List.mem_of_getElem? (i := 78) (by rfl))) (by rfl)
theorem u4_79 : Cond.selects RX1 yX1_stateOf yX1_stateOf ∈ UU := uu_of (tb4 (List.mem_of_getElem? (i := 79) (by rfl))) (by rfl)
theorem u4_80 : Cond.code yX1_stateOf cX1_stateOf 6 (some FieldType.long) ∈ UU := uu_of (tb4 (List.mem_of_getElem? (i := 80) (by rfl))) (by rfl)
theorem u4_81 : Cond.methodLink RX11 202 yX11_earlierLike ∈ UU := uu_of (tb4 (List.mem_of_getElem? (i := 81) (by rfl))) (by rfl)
theorem u4_83 : Cond.instanceMethod yX11_earlierLike ∈ UU := uu_of (tb4 (List.mem_of_getElem? (i := 83) (by rfl))) (by rfl)
theorem u4_84 : Cond.code yX11_earlierLike cX11_earlierLike 3 (some FieldType.int) ∈ UU := uu_of (tb4 (List.mem_of_getElem? (i := 84) (by rfl))) (by rfl)
theorem u4_85 : Cond.methodLink RL 78 yX11_lent ∈ UU := uu_of (tb4 (List.mem_of_getElem? (i := 85) (by rfl))) (by rfl)
theorem u4_86 : Cond.instanceMethod yX11_lent ∈ UU := uu_of (tb4 (List.mem_of_getElem? (i := 86) (by rfl))) (by rfl)
theorem u4_87 : Cond.selects RX11 yX11_lent yX11_lent ∈ UU := uu_of (tb4 (List.mem_of_getElem? (i := 87) (by rfl))) (by rfl)
theorem u4_88 : Cond.code yX11_lent cX11_lent 9 (some FieldType.long) ∈ UU := uu_of (tb4 (List.mem_of_getElem? (i := 88) (by rfl))) (by rfl)
theorem u4_89 : Cond.methodLink RL 83 yX11_lost ∈ UU := uu_of (tb4 (List.mem_of_getElem? (i := 89) (by rfl))) (by rfl)
theorem u4_90 : Cond.instanceMethod yX11_lost ∈ UU := uu_of (tb4 (List.mem_of_getElem? (i := 90) (by rfl))) (by rfl)
theorem u4_91 : Cond.selects RX11 yX11_lost yX11_lost ∈ UU := uu_of (tb4 (List.mem_of_getElem? (i := 91) (by rfl))) (by rfl)
theorem u4_92 : Cond.code yX11_lost cX11_lost 6 (some FieldType.long) ∈ UU := uu_of (tb4 (List.mem_of_getElem? (i := 92) (by rfl))) (by rfl)
theorem u4_93 : Cond.methodLink RX11 205 yX1_lose ∈ UU := uu_of (tb4 (List.mem_of_getElem? (i := 93) (by rfl))) (by rfl)
theorem u4_94 : Cond.instanceMethod yX1_lose ∈ UU := uu_of (tb4 (List.mem_of_getElem? (i := 94) (by rfl))) (by rfl)
theorem u4_95 : Cond.selects RX1 yX1_lose yX1_lose ∈ UU := uu_of (tb4 (List.mem_of_getElem? (i := 95) (by rfl))) (by rfl)
theorem u4_96 : Cond.code yX1_lose cX1_lose 3 none ∈ UU := uu_of (tb4 (List.mem_of_getElem? (i := 96) (by rfl))) (by rfl)
theorem u4_97 : Cond.methodLink RL 87 yX11_who ∈ UU := uu_of (tb4 (List.mem_of_getElem? (i := 97) (by rfl))) (by rfl)
theorem u4_98 : Cond.instanceMethod yX11_who ∈ UU := uu_of (tb4 (List.mem_of_getElem? (i := 98) (by rfl))) (by rfl)
theorem u4_99 : Cond.selects RX11 yX11_who yX11_who ∈ UU := uu_of (tb4 (List.mem_of_getElem? (i := 99) (by rfl))) (by rfl)
theorem u4_100 : Cond.code yX11_who cX11_who 11 (some FieldType.int) ∈ UU := uu_of (tb4 (List.mem_of_getElem? (i := 100) (by rfl))) (by rfl)
theorem u4_101 : Cond.methodLink RX11 211 yX1_breathesBehind ∈ UU := uu_of (tb4 (List.mem_of_getElem? (i := 101) (by rfl))) (by rfl)
theorem u4_102 : Cond.instanceMethod yX1_breathesBehind ∈ UU := uu_of (tb4 (List.mem_of_getElem? (i := 102) (by rfl))) (by rfl)
theorem u4_103 : Cond.selects RX1 yX1_breathesBehind yX1_breathesBehind ∈ UU := uu_of (tb4 (List.mem_of_getElem? (i := 103) (by rfl))) (by rfl)
theorem u4_104 : Cond.code yX1_breathesBehind cX1_breathesBehind 3 (some FieldType.boolean) ∈ UU := uu_of (tb4 (List.mem_of_getElem? (i := 104) (by rfl))) (by rfl)
theorem u4_105 : Cond.methodLink RL 91 yX11_image ∈ UU := uu_of (tb4 (List.mem_of_getElem? (i := 105) (by rfl))) (by rfl)
theorem u4_106 : Cond.instanceMethod yX11_image ∈ UU := uu_of (tb4 (List.mem_of_getElem? (i := 106) (by rfl))) (by rfl)
theorem u4_107 : Cond.selects RX11 yX11_image yX11_image ∈ UU := uu_of (tb4 (List.mem_of_getElem? (i := 107) (by rfl))) (by rfl)
theorem u4_108 : Cond.code yX11_image cX11_image 1 (some FieldType.int) ∈ UU := uu_of (tb4 (List.mem_of_getElem? (i := 108) (by rfl))) (by rfl)
theorem u4_109 : Cond.methodLink RX11 217 yX4_takeFrom ∈ UU := uu_of (tb4 (List.mem_of_getElem? (i := 109) (by rfl))) (by rfl)
theorem u4_110 : Cond.instanceMethod yX4_takeFrom ∈ UU := uu_of (tb4 (List.mem_of_getElem? (i := 110) (by rfl))) (by rfl)
theorem u4_111 : Cond.selects RX4 yX4_takeFrom yX4_takeFrom ∈ UU := uu_of (tb4 (List.mem_of_getElem? (i := 111) (by rfl))) (by rfl)
theorem u4_112 : Cond.code yX4_takeFrom cX4_takeFrom 4 none ∈ UU := uu_of (tb4 (List.mem_of_getElem? (i := 112) (by rfl))) (by rfl)
theorem u4_113 : Cond.methodLink RX4 43 ⟨RJ10, "arraycopy", "(Ljava/lang/Object;ILjava/lang/Object;II)V"⟩ ∈ UU := uu_of (tb4 (List.mem_of_getElem? (i := 113) (by rfl))) (by rfl)
theorem u4_114 : Cond.methodLink RL 95 yX11_back ∈ UU := uu_of (tb4 (List.mem_of_getElem? (i := 114) (by rfl))) (by rfl)
theorem u4_115 : Cond.instanceMethod yX11_back ∈ UU := uu_of (tb4 (List.mem_of_getElem? (i := 115) (by rfl))) (by rfl)
theorem u4_116 : Cond.selects RX11 yX11_back yX11_back ∈ UU := uu_of (tb4 (List.mem_of_getElem? (i := 116) (by rfl))) (by rfl)
theorem u4_117 : Cond.code yX11_back cX11_back 1 (some FieldType.int) ∈ UU := uu_of (tb4 (List.mem_of_getElem? (i := 117) (by rfl))) (by rfl)
theorem u4_118 : Cond.methodLink RL 99 yX11_count ∈ UU := uu_of (tb4 (List.mem_of_getElem? (i := 118) (by rfl))) (by rfl)
theorem u4_119 : Cond.instanceMethod yX11_count ∈ UU := uu_of (tb4 (List.mem_of_getElem? (i := 119) (by rfl))) (by rfl)
theorem u4_120 : Cond.selects RX11 yX11_count yX11_count ∈ UU := uu_of (tb4 (List.mem_of_getElem? (i := 120) (by rfl))) (by rfl)
theorem u4_121 : Cond.code yX11_count cX11_count 2 (some FieldType.int) ∈ UU := uu_of (tb4 (List.mem_of_getElem? (i := 121) (by rfl))) (by rfl)
theorem u4_122 : Cond.methodLink RX11 221 yX11_sumOf ∈ UU := uu_of (tb4 (List.mem_of_getElem? (i := 122) (by rfl))) (by rfl)
theorem u4_123 : Cond.methodLink RL 103 yX11_sheet ∈ UU := uu_of (tb4 (List.mem_of_getElem? (i := 123) (by rfl))) (by rfl)
theorem u4_124 : Cond.instanceMethod yX11_sheet ∈ UU := uu_of (tb4 (List.mem_of_getElem? (i := 124) (by rfl))) (by rfl)
theorem u4_125 : Cond.selects RX11 yX11_sheet yX11_sheet ∈ UU := uu_of (tb4 (List.mem_of_getElem? (i := 125) (by rfl))) (by rfl)
theorem u4_126 : Cond.code yX11_sheet cX11_sheet 4 (some FieldType.int) ∈ UU := uu_of (tb4 (List.mem_of_getElem? (i := 126) (by rfl))) (by rfl)
theorem u4_127 : Cond.methodLink RX11 225 yX6_become ∈ UU := uu_of (tb4 (List.mem_of_getElem? (i := 127) (by rfl))) (by rfl)
theorem u4_128 : Cond.instanceMethod yX6_become ∈ UU := uu_of (tb4 (List.mem_of_getElem? (i := 128) (by rfl))) (by rfl)
theorem u4_129 : Cond.selects RX6 yX6_become yX6_become ∈ UU := uu_of (tb4 (List.mem_of_getElem? (i := 129) (by rfl))) (by rfl)
theorem u4_130 : Cond.code yX6_become cX6_become 3 none ∈ UU := uu_of (tb4 (List.mem_of_getElem? (i := 130) (by rfl))) (by rfl)
theorem u4_131 : Cond.methodLink RX6 22 yJ7_fill_53178 ∈ UU := uu_of (tb4 (List.mem_of_getElem? (i := 131) (by rfl))) (by rfl)
theorem u4_132 : Cond.methodLink RL 107 yX11_cell ∈ UU := uu_of (tb4 (List.mem_of_getElem? (i := 132) (by rfl))) (by rfl)
theorem u4_133 : Cond.instanceMethod yX11_cell ∈ UU := uu_of (tb4 (List.mem_of_getElem? (i := 133) (by rfl))) (by rfl)
theorem u4_134 : Cond.selects RX11 yX11_cell yX11_cell ∈ UU := uu_of (tb4 (List.mem_of_getElem? (i := 134) (by rfl))) (by rfl)
theorem u4_135 : Cond.code yX11_cell cX11_cell 5 (some FieldType.int) ∈ UU := uu_of (tb4 (List.mem_of_getElem? (i := 135) (by rfl))) (by rfl)
theorem u4_136 : Cond.methodLink RX11 230 yX6_put ∈ UU := uu_of (tb4 (List.mem_of_getElem? (i := 136) (by rfl))) (by rfl)
theorem u4_137 : Cond.instanceMethod yX6_put ∈ UU := uu_of (tb4 (List.mem_of_getElem? (i := 137) (by rfl))) (by rfl)
theorem u4_138 : Cond.selects RX6 yX6_put yX6_put ∈ UU := uu_of (tb4 (List.mem_of_getElem? (i := 138) (by rfl))) (by rfl)
theorem u4_139 : Cond.code yX6_put cX6_put 3 none ∈ UU := uu_of (tb4 (List.mem_of_getElem? (i := 139) (by rfl))) (by rfl)
theorem u4_140 : Cond.methodLink RL 111 yX11_copy ∈ UU := uu_of (tb4 (List.mem_of_getElem? (i := 140) (by rfl))) (by rfl)
theorem u4_141 : Cond.instanceMethod yX11_copy ∈ UU := uu_of (tb4 (List.mem_of_getElem? (i := 141) (by rfl))) (by rfl)
theorem u4_142 : Cond.selects RX11 yX11_copy yX11_copy ∈ UU := uu_of (tb4 (List.mem_of_getElem? (i := 142) (by rfl))) (by rfl)
theorem u4_143 : Cond.code yX11_copy cX11_copy 8 (some FieldType.int) ∈ UU := uu_of (tb4 (List.mem_of_getElem? (i := 143) (by rfl))) (by rfl)
theorem u4_144 : Cond.methodLink RX11 235 yX6_hasRoom ∈ UU := uu_of (tb4 (List.mem_of_getElem? (i := 144) (by rfl))) (by rfl)
theorem u4_145 : Cond.instanceMethod yX6_hasRoom ∈ UU := uu_of (tb4 (List.mem_of_getElem? (i := 145) (by rfl))) (by rfl)
theorem u4_146 : Cond.selects RX6 yX6_hasRoom yX6_hasRoom ∈ UU := uu_of (tb4 (List.mem_of_getElem? (i := 146) (by rfl))) (by rfl)
theorem u4_147 : Cond.code yX6_hasRoom cX6_hasRoom 3 (some FieldType.boolean) ∈ UU := uu_of (tb4 (List.mem_of_getElem? (i := 147) (by rfl))) (by rfl)
theorem u4_148 : Cond.methodLink RX11 241 ⟨RJ10, "arraycopy", "(Ljava/lang/Object;ILjava/lang/Object;II)V"⟩ ∈ UU := uu_of (tb4 (List.mem_of_getElem? (i := 148) (by rfl))) (by rfl)
theorem u4_149 : Cond.methodLink RL 116 yX11_singers ∈ UU := uu_of (tb4 (List.mem_of_getElem? (i := 149) (by rfl))) (by rfl)
theorem u4_150 : Cond.instanceMethod yX11_singers ∈ UU := uu_of (tb4 (List.mem_of_getElem? (i := 150) (by rfl))) (by rfl)
theorem u4_151 : Cond.selects RX11 yX11_singers yX11_singers ∈ UU := uu_of (tb4 (List.mem_of_getElem? (i := 151) (by rfl))) (by rfl)
theorem u4_152 : Cond.code yX11_singers cX11_singers 9 (some FieldType.int) ∈ UU := uu_of (tb4 (List.mem_of_getElem? (i := 152) (by rfl))) (by rfl)
theorem u4_153 : Cond.methodLink RX11 247 yX11_singer ∈ UU := uu_of (tb4 (List.mem_of_getElem? (i := 153) (by rfl))) (by rfl)
theorem u4_154 : Cond.methodLink RL 120 yX11_taken ∈ UU := uu_of (tb4 (List.mem_of_getElem? (i := 154) (by rfl))) (by rfl)
theorem u4_155 : Cond.instanceMethod yX11_taken ∈ UU := uu_of (tb4 (List.mem_of_getElem? (i := 155) (by rfl))) (by rfl)
theorem u4_156 : Cond.selects RX11 yX11_taken yX11_taken ∈ UU := uu_of (tb4 (List.mem_of_getElem? (i := 156) (by rfl))) (by rfl)
theorem u4_157 : Cond.code yX11_taken cX11_taken 4 (some FieldType.int) ∈ UU := uu_of (tb4 (List.mem_of_getElem? (i := 157) (by rfl))) (by rfl)
theorem u4_158 : Cond.methodLink RX11 251 yX7_isUnder ∈ UU := uu_of (tb4 (List.mem_of_getElem? (i := 158) (by rfl))) (by rfl)
theorem u4_159 : Cond.instanceMethod yX7_isUnder ∈ UU := uu_of (tb4 (List.mem_of_getElem? (i := 159) (by rfl))) (by rfl)
theorem u4_160 : Cond.selects RX7 yX7_isUnder yX7_isUnder ∈ UU := uu_of (tb4 (List.mem_of_getElem? (i := 160) (by rfl))) (by rfl)
theorem u4_161 : Cond.sameMethod RX7 RX7 "isUnder" "(I)Z" ∈ UU := uu_of (tb4 (List.mem_of_getElem? (i := 161) (by rfl))) (by rfl)
theorem u4_162 : Cond.selects RX0 yX7_isUnder yX0_isUnder ∈ UU := uu_of (tb4 (List.mem_of_getElem? (i := 162) (by rfl))) (by rfl)
theorem u4_163 : Cond.instanceMethod yX0_isUnder ∈ UU := uu_of (tb4 (List.mem_of_getElem? (i := 163) (by rfl))) (by rfl)
theorem u4_164 : Cond.code yX0_isUnder cX0_isUnder 2 (some FieldType.boolean) ∈ UU := uu_of (tb4 (List.mem_of_getElem? (i := 164) (by rfl))) (by rfl)
theorem u4_165 : Cond.methodLink RX0 9 yX7_isUnder ∈ UU := uu_of (tb4 (List.mem_of_getElem? (i := 165) (by rfl))) (by rfl)
theorem u4_166 : Cond.selects RX2 yX7_isUnder yX2_isUnder ∈ UU := uu_of (tb4 (List.mem_of_getElem? (i := 166) (by rfl))) (by rfl)
theorem u4_167 : Cond.instanceMethod yX2_isUnder ∈ UU := uu_of (tb4 (List.mem_of_getElem? (i := 167) (by rfl))) (by rfl)
theorem u4_168 : Cond.code yX2_isUnder cX2_isUnder 2 (some FieldType.boolean) ∈ UU := uu_of (tb4 (List.mem_of_getElem? (i := 168) (by rfl))) (by rfl)
theorem u4_169 : Cond.methodLink RX2 9 yX8_isUnder ∈ UU := uu_of (tb4 (List.mem_of_getElem? (i := 169) (by rfl))) (by rfl)
theorem u4_170 : Cond.instanceMethod yX8_isUnder ∈ UU := uu_of (tb4 (List.mem_of_getElem? (i := 170) (by rfl))) (by rfl)
theorem u4_171 : Cond.code yX8_isUnder cX8_isUnder 2 (some FieldType.boolean) ∈ UU := uu_of (tb4 (List.mem_of_getElem? (i := 171) (by rfl))) (by rfl)
theorem u4_172 : Cond.methodLink RX8 9 yX7_isUnder ∈ UU := uu_of (tb4 (List.mem_of_getElem? (i := 172) (by rfl))) (by rfl)
theorem u4_173 : Cond.selects RX3 yX7_isUnder yX3_isUnder ∈ UU := uu_of (tb4 (List.mem_of_getElem? (i := 173) (by rfl))) (by rfl)
theorem u4_174 : Cond.instanceMethod yX3_isUnder ∈ UU := uu_of (tb4 (List.mem_of_getElem? (i := 174) (by rfl))) (by rfl)
theorem u4_175 : Cond.code yX3_isUnder cX3_isUnder 2 (some FieldType.boolean) ∈ UU := uu_of (tb4 (List.mem_of_getElem? (i := 175) (by rfl))) (by rfl)
theorem u4_176 : Cond.methodLink RX3 9 yX10_isUnder ∈ UU := uu_of (tb4 (List.mem_of_getElem? (i := 176) (by rfl))) (by rfl)
theorem u4_177 : Cond.instanceMethod yX10_isUnder ∈ UU := uu_of (tb4 (List.mem_of_getElem? (i := 177) (by rfl))) (by rfl)
theorem u4_178 : Cond.code yX10_isUnder cX10_isUnder 2 (some FieldType.boolean) ∈ UU := uu_of (tb4 (List.mem_of_getElem? (i := 178) (by rfl))) (by rfl)
theorem u4_179 : Cond.methodLink RX10 9 yX7_isUnder ∈ UU := uu_of (tb4 (List.mem_of_getElem? (i := 179) (by rfl))) (by rfl)
theorem u4_180 : Cond.selects RX8 yX7_isUnder yX8_isUnder ∈ UU := uu_of (tb4 (List.mem_of_getElem? (i := 180) (by rfl))) (by rfl)
theorem u4_181 : Cond.selects RX10 yX7_isUnder yX10_isUnder ∈ UU := uu_of (tb4 (List.mem_of_getElem? (i := 181) (by rfl))) (by rfl)
theorem u4_182 : Cond.code yX7_isUnder cX7_isUnder 2 (some FieldType.boolean) ∈ UU := uu_of (tb4 (List.mem_of_getElem? (i := 182) (by rfl))) (by rfl)
theorem u4_183 : Cond.classLink RL 10 RX12 ∈ UU := uu_of (tb4 (List.mem_of_getElem? (i := 183) (by rfl))) (by rfl)
theorem u4_184 : Cond.instantiable RX12 58 ∈ UU := uu_of (tb4 (List.mem_of_getElem? (i := 184) (by rfl))) (by rfl)
theorem u4_185 : Cond.methodLink RL 12 yX12_init ∈ UU := uu_of (tb4 (List.mem_of_getElem? (i := 185) (by rfl))) (by rfl)
theorem u4_186 : Cond.instanceMethod yX12_init ∈ UU := uu_of (tb4 (List.mem_of_getElem? (i := 186) (by rfl))) (by rfl)
theorem u4_187 : Cond.code yX12_init cX12_init 1 none ∈ UU := uu_of (tb4 (List.mem_of_getElem? (i := 187) (by rfl))) (by rfl)
theorem u4_188 : Cond.methodLink RX12 1 ⟨"java/lang/Object", "<init>", "()V"⟩ ∈ UU := uu_of (tb4 (List.mem_of_getElem? (i := 188) (by rfl))) (by rfl)
theorem u4_189 : Cond.fieldLink RX12 7 RX12 "lastStep" "I" ∈ UU := uu_of (tb4 (List.mem_of_getElem? (i := 189) (by rfl))) (by rfl)
theorem u4_190 : Cond.fieldLink RX12 131 RX12 "echo" "I" ∈ UU := uu_of (tb4 (List.mem_of_getElem? (i := 190) (by rfl))) (by rfl)
theorem u4_191 : Cond.fieldLink RX12 13 RX12 "loud" "[I" ∈ UU := uu_of (tb4 (List.mem_of_getElem? (i := 191) (by rfl))) (by rfl)
theorem u4_192 : Cond.fieldLink RX12 17 RX12 "bar" "[I" ∈ UU := uu_of (tb4 (List.mem_of_getElem? (i := 192) (by rfl))) (by rfl)
theorem u4_193 : Cond.fieldLink RX12 20 RX12 "ess" "[I" ∈ UU := uu_of (tb4 (List.mem_of_getElem? (i := 193) (by rfl))) (by rfl)
theorem u4_194 : Cond.fieldLink RX12 23 RX12 "least" "[I" ∈ UU := uu_of (tb4 (List.mem_of_getElem? (i := 194) (by rfl))) (by rfl)
theorem u4_195 : Cond.fieldLink RX12 124 RX12 "singers" "I" ∈ UU := uu_of (tb4 (List.mem_of_getElem? (i := 195) (by rfl))) (by rfl)
theorem u4_196 : Cond.fieldLink RX12 26 RX12 "kind" "[I" ∈ UU := uu_of (tb4 (List.mem_of_getElem? (i := 196) (by rfl))) (by rfl)
theorem u4_197 : Cond.fieldLink RX12 29 RX12 "voice" "[I" ∈ UU := uu_of (tb4 (List.mem_of_getElem? (i := 197) (by rfl))) (by rfl)
theorem u4_198 : Cond.fieldLink RX12 32 RX12 "hold" "[I" ∈ UU := uu_of (tb4 (List.mem_of_getElem? (i := 198) (by rfl))) (by rfl)
theorem u4_199 : Cond.fieldLink RX12 35 RX12 "number" "[I" ∈ UU := uu_of (tb4 (List.mem_of_getElem? (i := 199) (by rfl))) (by rfl)
theorem u4_200 : Cond.fieldLink RX12 38 RX12 "breath" "[I" ∈ UU := uu_of (tb4 (List.mem_of_getElem? (i := 200) (by rfl))) (by rfl)
theorem u4_201 : Cond.fieldLink RX12 41 RX12 "tape" "[B" ∈ UU := uu_of (tb4 (List.mem_of_getElem? (i := 201) (by rfl))) (by rfl)
theorem u4_202 : Cond.fieldLink RX12 150 RX12 "taped" "I" ∈ UU := uu_of (tb4 (List.mem_of_getElem? (i := 202) (by rfl))) (by rfl)
theorem u4_203 : Cond.fieldLink RX12 45 RX12 "texts" "I" ∈ UU := uu_of (tb4 (List.mem_of_getElem? (i := 203) (by rfl))) (by rfl)
theorem u4_204 : Cond.fieldLink RX12 226 RX12 "inForce" "I" ∈ UU := uu_of (tb4 (List.mem_of_getElem? (i := 204) (by rfl))) (by rfl)
theorem u4_205 : Cond.fieldLink RX12 48 RX12 "act" "[I" ∈ UU := uu_of (tb4 (List.mem_of_getElem? (i := 205) (by rfl))) (by rfl)
theorem u4_206 : Cond.fieldLink RX12 51 RX12 "with" "[I" ∈ UU := uu_of (tb4 (List.mem_of_getElem? (i := 206) (by rfl))) (by rfl)
theorem u4_207 : Cond.fieldLink RX12 54 RX12 "endOf" "[I" ∈ UU := uu_of (tb4 (List.mem_of_getElem? (i := 207) (by rfl))) (by rfl)
theorem u4_208 : Cond.fieldLink RX12 178 RX12 "laid" "I" ∈ UU := uu_of (tb4 (List.mem_of_getElem? (i := 208) (by rfl))) (by rfl)
theorem u4_209 : Cond.fieldLink RX12 175 RX12 "fault" "I" ∈ UU := uu_of (tb4 (List.mem_of_getElem? (i := 209) (by rfl))) (by rfl)
theorem u4_210 : Cond.fieldLink RX12 181 RX12 "open" "I" ∈ UU := uu_of (tb4 (List.mem_of_getElem? (i := 210) (by rfl))) (by rfl)
theorem u4_211 : Cond.fieldLink RX12 153 RX12 "from" "I" ∈ UU := uu_of (tb4 (List.mem_of_getElem? (i := 211) (by rfl))) (by rfl)
theorem u4_212 : Cond.fieldLink RX12 156 RX12 "to" "I" ∈ UU := uu_of (tb4 (List.mem_of_getElem? (i := 212) (by rfl))) (by rfl)
theorem u4_213 : Cond.fieldLink RX12 159 RX12 "sortNow" "I" ∈ UU := uu_of (tb4 (List.mem_of_getElem? (i := 213) (by rfl))) (by rfl)
theorem u4_214 : Cond.fieldLink RX12 169 RX12 "isNow" "I" ∈ UU := uu_of (tb4 (List.mem_of_getElem? (i := 214) (by rfl))) (by rfl)
theorem u4_215 : Cond.fieldLink RX12 57 RX12 "pile" "[I" ∈ UU := uu_of (tb4 (List.mem_of_getElem? (i := 215) (by rfl))) (by rfl)
theorem u4_216 : Cond.fieldLink RX12 60 RX12 "facts" "[I" ∈ UU := uu_of (tb4 (List.mem_of_getElem? (i := 216) (by rfl))) (by rfl)
theorem u4_217 : Cond.fieldLink RX12 63 RX12 "letters" "[I" ∈ UU := uu_of (tb4 (List.mem_of_getElem? (i := 217) (by rfl))) (by rfl)
theorem u4_218 : Cond.fieldLink RX12 66 RX12 "meant" "[I" ∈ UU := uu_of (tb4 (List.mem_of_getElem? (i := 218) (by rfl))) (by rfl)
theorem u4_219 : Cond.fieldLink RX12 69 RX12 "sung" "[I" ∈ UU := uu_of (tb4 (List.mem_of_getElem? (i := 219) (by rfl))) (by rfl)
theorem u4_220 : Cond.fieldLink RX12 72 RX12 "left" "[I" ∈ UU := uu_of (tb4 (List.mem_of_getElem? (i := 220) (by rfl))) (by rfl)
theorem u4_221 : Cond.fieldLink RX12 75 RX12 "often" "[I" ∈ UU := uu_of (tb4 (List.mem_of_getElem? (i := 221) (by rfl))) (by rfl)
theorem u4_222 : Cond.fieldLink RX12 78 RX12 "sings" "[Z" ∈ UU := uu_of (tb4 (List.mem_of_getElem? (i := 222) (by rfl))) (by rfl)
theorem u4_223 : Cond.fieldLink RX12 82 RX12 "sang" "[Z" ∈ UU := uu_of (tb4 (List.mem_of_getElem? (i := 223) (by rfl))) (by rfl)
theorem u4_224 : Cond.fieldLink RX12 235 RX12 "lostSinger" "I" ∈ UU := uu_of (tb4 (List.mem_of_getElem? (i := 224) (by rfl))) (by rfl)
theorem u4_225 : Cond.fieldLink RX12 257 RX12 "lostStep" "I" ∈ UU := uu_of (tb4 (List.mem_of_getElem? (i := 225) (by rfl))) (by rfl)
theorem u4_226 : Cond.fieldLink RX12 238 RX12 "moreSinger" "I" ∈ UU := uu_of (tb4 (List.mem_of_getElem? (i := 226) (by rfl))) (by rfl)
theorem u4_227 : Cond.fieldLink RX12 241 RX12 "moreStep" "I" ∈ UU := uu_of (tb4 (List.mem_of_getElem? (i := 227) (by rfl))) (by rfl)
theorem u4_228 : Cond.fieldLink RX12 232 RX12 "sameLoud" "I" ∈ UU := uu_of (tb4 (List.mem_of_getElem? (i := 228) (by rfl))) (by rfl)
theorem u4_229 : Cond.fieldLink RX12 85 RX12 "thinSince" "[I" ∈ UU := uu_of (tb4 (List.mem_of_getElem? (i := 229) (by rfl))) (by rfl)
theorem u4_230 : Cond.fieldLink RX12 88 RX12 "sungThen" "[I" ∈ UU := uu_of (tb4 (List.mem_of_getElem? (i := 230) (by rfl))) (by rfl)
theorem u4_231 : Cond.fieldLink RX12 91 RX12 "leftThen" "[I" ∈ UU := uu_of (tb4 (List.mem_of_getElem? (i := 231) (by rfl))) (by rfl)
theorem u4_232 : Cond.fieldLink RX12 308 RX12 "hasImage" "Z" ∈ UU := uu_of (tb4 (List.mem_of_getElem? (i := 232) (by rfl))) (by rfl)
theorem u4_233 : Cond.fieldLink RX12 312 RX12 "keptLast" "I" ∈ UU := uu_of (tb4 (List.mem_of_getElem? (i := 233) (by rfl))) (by rfl)
theorem u4_234 : Cond.fieldLink RX12 315 RX12 "keptEcho" "I" ∈ UU := uu_of (tb4 (List.mem_of_getElem? (i := 234) (by rfl))) (by rfl)
theorem u4_235 : Cond.fieldLink RX12 318 RX12 "keptRule" "I" ∈ UU := uu_of (tb4 (List.mem_of_getElem? (i := 235) (by rfl))) (by rfl)
theorem u4_236 : Cond.fieldLink RX12 321 RX12 "keptSingers" "I" ∈ UU := uu_of (tb4 (List.mem_of_getElem? (i := 236) (by rfl))) (by rfl)
theorem u4_237 : Cond.fieldLink RX12 94 RX12 "keptLoud" "[I" ∈ UU := uu_of (tb4 (List.mem_of_getElem? (i := 237) (by rfl))) (by rfl)
theorem u4_238 : Cond.fieldLink RX12 97 RX12 "keptBar" "[I" ∈ UU := uu_of (tb4 (List.mem_of_getElem? (i := 238) (by rfl))) (by rfl)
theorem u4_239 : Cond.fieldLink RX12 100 RX12 "keptEss" "[I" ∈ UU := uu_of (tb4 (List.mem_of_getElem? (i := 239) (by rfl))) (by rfl)
theorem u5_0 : Cond.fieldLink RX12 103 RX12 "keptLeast" "[I" ∈ UU := uu_of (tb5 (List.mem_of_getElem? (i := 0) (by rfl))) (by rfl)
theorem u5_1 : Cond.fieldLink RX12 106 RX12 "keptVoice" "[I" ∈ UU := uu_of (tb5 (List.mem_of_getElem? (i := 1) (by rfl))) (by rfl)
theorem u5_2 : Cond.fieldLink RX12 109 RX12 "sheetSort" "[I" ∈ UU := uu_of (tb5 (List.mem_of_getElem? (i := 2) (by rfl))) (by rfl)
theorem u5_3 : Cond.fieldLink RX12 112 RX12 "sheetSize" "[I" ∈ UU := uu_of (tb5 (List.mem_of_getElem? (i := 3) (by rfl))) (by rfl)
theorem u5_4 : Cond.fieldLink RX12 115 RX12 "items" "[I" ∈ UU := uu_of (tb5 (List.mem_of_getElem? (i := 4) (by rfl))) (by rfl)
theorem u5_5 : Cond.fieldLink RX12 118 RX12 "moving" "[I" ∈ UU := uu_of (tb5 (List.mem_of_getElem? (i := 5) (by rfl))) (by rfl)
theorem u5_122 : Cond.superclass RX12 "java/lang/Object" ∈ UU := uu_of (tb5 (List.mem_of_getElem? (i := 122) (by rfl))) (by rfl)
theorem u5_123 : Cond.arrayClass FieldType.boolean ∈ UU := uu_of (tb5 (List.mem_of_getElem? (i := 123) (by rfl))) (by rfl)
theorem u5_124 : Cond.methodLink RL 17 yX12_set ∈ UU := uu_of (tb5 (List.mem_of_getElem? (i := 124) (by rfl))) (by rfl)
theorem u5_125 : Cond.instanceMethod yX12_set ∈ UU := uu_of (tb5 (List.mem_of_getElem? (i := 125) (by rfl))) (by rfl)
theorem u5_126 : Cond.selects RX12 yX12_set yX12_set ∈ UU := uu_of (tb5 (List.mem_of_getElem? (i := 126) (by rfl))) (by rfl)
theorem u5_127 : Cond.code yX12_set cX12_set 5 (some FieldType.int) ∈ UU := uu_of (tb5 (List.mem_of_getElem? (i := 127) (by rfl))) (by rfl)
theorem u5_128 : Cond.methodLink RX12 127 yX12_in ∈ UU := uu_of (tb5 (List.mem_of_getElem? (i := 128) (by rfl))) (by rfl)
theorem u5_129 : Cond.static yX12_in ∈ UU := uu_of (tb5 (List.mem_of_getElem? (i := 129) (by rfl))) (by rfl)
theorem u5_130 : Cond.code yX12_in cX12_in 3 (some FieldType.boolean) ∈ UU := uu_of (tb5 (List.mem_of_getElem? (i := 130) (by rfl))) (by rfl)
theorem u5_131 : Cond.methodLink RL 21 yX12_singer ∈ UU := uu_of (tb5 (List.mem_of_getElem? (i := 131) (by rfl))) (by rfl)
theorem u5_132 : Cond.instanceMethod yX12_singer ∈ UU := uu_of (tb5 (List.mem_of_getElem? (i := 132) (by rfl))) (by rfl)
theorem u5_133 : Cond.selects RX12 yX12_singer yX12_singer ∈ UU := uu_of (tb5 (List.mem_of_getElem? (i := 133) (by rfl))) (by rfl)
theorem u5_134 : Cond.code yX12_singer cX12_singer 4 (some FieldType.int) ∈ UU := uu_of (tb5 (List.mem_of_getElem? (i := 134) (by rfl))) (by rfl)
theorem u5_135 : Cond.methodLink RL 26 yX12_voice ∈ UU := uu_of (tb5 (List.mem_of_getElem? (i := 135) (by rfl))) (by rfl)
theorem u5_136 : Cond.instanceMethod yX12_voice ∈ UU := uu_of (tb5 (List.mem_of_getElem? (i := 136) (by rfl))) (by rfl)
theorem u5_137 : Cond.selects RX12 yX12_voice yX12_voice ∈ UU := uu_of (tb5 (List.mem_of_getElem? (i := 137) (by rfl))) (by rfl)
theorem u5_138 : Cond.code yX12_voice cX12_voice 4 (some FieldType.int) ∈ UU := uu_of (tb5 (List.mem_of_getElem? (i := 138) (by rfl))) (by rfl)
theorem u5_139 : Cond.methodLink RX12 134 yX12_isSinger ∈ UU := uu_of (tb5 (List.mem_of_getElem? (i := 139) (by rfl))) (by rfl)
theorem u5_141 : Cond.instanceMethod yX12_isSinger ∈ UU := uu_of (tb5 (List.mem_of_getElem? (i := 141) (by rfl))) (by rfl)
theorem u5_142 : Cond.code yX12_isSinger cX12_isSinger 2 (some FieldType.boolean) ∈ UU := uu_of (tb5 (List.mem_of_getElem? (i := 142) (by rfl))) (by rfl)
theorem u5_143 : Cond.methodLink RL 31 yX12_told ∈ UU := uu_of (tb5 (List.mem_of_getElem? (i := 143) (by rfl))) (by rfl)
theorem u5_144 : Cond.instanceMethod yX12_told ∈ UU := uu_of (tb5 (List.mem_of_getElem? (i := 144) (by rfl))) (by rfl)
theorem u5_145 : Cond.selects RX12 yX12_told yX12_told ∈ UU := uu_of (tb5 (List.mem_of_getElem? (i := 145) (by rfl))) (by rfl)
theorem u5_146 : Cond.code yX12_told cX12_told 5 (some FieldType.int) ∈ UU := uu_of (tb5 (List.mem_of_getElem? (i := 146) (by rfl))) (by rfl)
theorem u5_147 : Cond.methodLink RX12 138 yX12_canHold ∈ UU := uu_of (tb5 (List.mem_of_getElem? (i := 147) (by rfl))) (by rfl)
theorem u5_149 : Cond.instanceMethod yX12_canHold ∈ UU := uu_of (tb5 (List.mem_of_getElem? (i := 149) (by rfl))) (by rfl)
theorem u5_150 : Cond.code yX12_canHold cX12_canHold 6 (some FieldType.int) ∈ UU := uu_of (tb5 (List.mem_of_getElem? (i := 150) (by rfl))) (by rfl)
theorem u5_151 : Cond.methodLink RX12 142 yX12_takes ∈ UU := uu_of (tb5 (List.mem_of_getElem? (i := 151) (by rfl))) (by rfl)
theorem u5_153 : Cond.instanceMethod yX12_takes ∈ UU := uu_of (tb5 (List.mem_of_getElem? (i := 153) (by rfl))) (by rfl)
theorem u5_154 : Cond.code yX12_takes cX12_takes 3 (some FieldType.int) ∈ UU := uu_of (tb5 (List.mem_of_getElem? (i := 154) (by rfl))) (by rfl)
theorem u5_155 : Cond.methodLink RX12 146 yX12_doesSay ∈ UU := uu_of (tb5 (List.mem_of_getElem? (i := 155) (by rfl))) (by rfl)
theorem u5_157 : Cond.instanceMethod yX12_doesSay ∈ UU := uu_of (tb5 (List.mem_of_getElem? (i := 157) (by rfl))) (by rfl)
theorem u5_158 : Cond.code yX12_doesSay cX12_doesSay 3 (some FieldType.boolean) ∈ UU := uu_of (tb5 (List.mem_of_getElem? (i := 158) (by rfl))) (by rfl)
theorem u5_159 : Cond.methodLink RL 38 yX12_feed ∈ UU := uu_of (tb5 (List.mem_of_getElem? (i := 159) (by rfl))) (by rfl)
theorem u5_160 : Cond.instanceMethod yX12_feed ∈ UU := uu_of (tb5 (List.mem_of_getElem? (i := 160) (by rfl))) (by rfl)
theorem u5_161 : Cond.selects RX12 yX12_feed yX12_feed ∈ UU := uu_of (tb5 (List.mem_of_getElem? (i := 161) (by rfl))) (by rfl)
theorem u5_162 : Cond.code yX12_feed cX12_feed 5 (some FieldType.int) ∈ UU := uu_of (tb5 (List.mem_of_getElem? (i := 162) (by rfl))) (by rfl)
theorem u5_163 : Cond.methodLink RL 43 yX12_text ∈ UU := uu_of (tb5 (List.mem_of_getElem? (i := 163) (by rfl))) (by rfl)
theorem u5_164 : Cond.instanceMethod yX12_text ∈ UU := uu_of (tb5 (List.mem_of_getElem? (i := 164) (by rfl))) (by rfl)
theorem u5_165 : Cond.selects RX12 yX12_text yX12_text ∈ UU := uu_of (tb5 (List.mem_of_getElem? (i := 165) (by rfl))) (by rfl)
theorem u5_166 : Cond.code yX12_text cX12_text 2 (some FieldType.int) ∈ UU := uu_of (tb5 (List.mem_of_getElem? (i := 166) (by rfl))) (by rfl)
theorem u5_167 : Cond.methodLink RX12 187 yX12_next ∈ UU := uu_of (tb5 (List.mem_of_getElem? (i := 167) (by rfl))) (by rfl)
theorem u5_169 : Cond.instanceMethod yX12_next ∈ UU := uu_of (tb5 (List.mem_of_getElem? (i := 169) (by rfl))) (by rfl)
theorem u5_170 : Cond.code yX12_next cX12_next 2 none ∈ UU := uu_of (tb5 (List.mem_of_getElem? (i := 170) (by rfl))) (by rfl)
theorem u5_171 : Cond.methodLink RX12 162 yX12_isLetter ∈ UU := uu_of (tb5 (List.mem_of_getElem? (i := 171) (by rfl))) (by rfl)
theorem u5_172 : Cond.static yX12_isLetter ∈ UU := uu_of (tb5 (List.mem_of_getElem? (i := 172) (by rfl))) (by rfl)
theorem u5_173 : Cond.code yX12_isLetter cX12_isLetter 1 (some FieldType.boolean) ∈ UU := uu_of (tb5 (List.mem_of_getElem? (i := 173) (by rfl))) (by rfl)
theorem u5_174 : Cond.methodLink RX12 165 yX12_wordNow ∈ UU := uu_of (tb5 (List.mem_of_getElem? (i := 174) (by rfl))) (by rfl)
theorem u5_176 : Cond.instanceMethod yX12_wordNow ∈ UU := uu_of (tb5 (List.mem_of_getElem? (i := 176) (by rfl))) (by rfl)
theorem u5_177 : Cond.code yX12_wordNow cX12_wordNow 5 (some FieldType.int) ∈ UU := uu_of (tb5 (List.mem_of_getElem? (i := 177) (by rfl))) (by rfl)
theorem u5_178 : Cond.methodLink RX12 172 yX12_isDigit ∈ UU := uu_of (tb5 (List.mem_of_getElem? (i := 178) (by rfl))) (by rfl)
theorem u5_179 : Cond.static yX12_isDigit ∈ UU := uu_of (tb5 (List.mem_of_getElem? (i := 179) (by rfl))) (by rfl)
theorem u5_180 : Cond.code yX12_isDigit cX12_isDigit 1 (some FieldType.boolean) ∈ UU := uu_of (tb5 (List.mem_of_getElem? (i := 180) (by rfl))) (by rfl)
theorem u5_181 : Cond.methodLink RX12 222 yX12_rule ∈ UU := uu_of (tb5 (List.mem_of_getElem? (i := 181) (by rfl))) (by rfl)
theorem u5_183 : Cond.instanceMethod yX12_rule ∈ UU := uu_of (tb5 (List.mem_of_getElem? (i := 183) (by rfl))) (by rfl)
theorem u5_184 : Cond.code yX12_rule cX12_rule 2 none ∈ UU := uu_of (tb5 (List.mem_of_getElem? (i := 184) (by rfl))) (by rfl)
theorem u5_185 : Cond.methodLink RX12 193 yX12_isKey ∈ UU := uu_of (tb5 (List.mem_of_getElem? (i := 185) (by rfl))) (by rfl)
theorem u5_187 : Cond.instanceMethod yX12_isKey ∈ UU := uu_of (tb5 (List.mem_of_getElem? (i := 187) (by rfl))) (by rfl)
theorem u5_188 : Cond.code yX12_isKey cX12_isKey 2 (some FieldType.boolean) ∈ UU := uu_of (tb5 (List.mem_of_getElem? (i := 188) (by rfl))) (by rfl)
theorem u5_189 : Cond.methodLink RX12 184 yX12_faulty ∈ UU := uu_of (tb5 (List.mem_of_getElem? (i := 189) (by rfl))) (by rfl)
theorem u5_191 : Cond.instanceMethod yX12_faulty ∈ UU := uu_of (tb5 (List.mem_of_getElem? (i := 191) (by rfl))) (by rfl)
theorem u5_192 : Cond.code yX12_faulty cX12_faulty 1 none ∈ UU := uu_of (tb5 (List.mem_of_getElem? (i := 192) (by rfl))) (by rfl)
theorem u5_193 : Cond.methodLink RX12 219 yX12_either ∈ UU := uu_of (tb5 (List.mem_of_getElem? (i := 193) (by rfl))) (by rfl)
theorem u5_195 : Cond.instanceMethod yX12_either ∈ UU := uu_of (tb5 (List.mem_of_getElem? (i := 195) (by rfl))) (by rfl)
theorem u5_196 : Cond.code yX12_either cX12_either 1 none ∈ UU := uu_of (tb5 (List.mem_of_getElem? (i := 196) (by rfl))) (by rfl)
theorem u5_197 : Cond.methodLink RX12 190 yX12_all ∈ UU := uu_of (tb5 (List.mem_of_getElem? (i := 197) (by rfl))) (by rfl)
theorem u5_199 : Cond.instanceMethod yX12_all ∈ UU := uu_of (tb5 (List.mem_of_getElem? (i := 199) (by rfl))) (by rfl)
theorem u5_200 : Cond.code yX12_all cX12_all 1 none ∈ UU := uu_of (tb5 (List.mem_of_getElem? (i := 200) (by rfl))) (by rfl)
theorem u5_201 : Cond.methodLink RX12 200 yX12_denied ∈ UU := uu_of (tb5 (List.mem_of_getElem? (i := 201) (by rfl))) (by rfl)
theorem u5_203 : Cond.instanceMethod yX12_denied ∈ UU := uu_of (tb5 (List.mem_of_getElem? (i := 203) (by rfl))) (by rfl)
theorem u5_204 : Cond.code yX12_denied cX12_denied 2 none ∈ UU := uu_of (tb5 (List.mem_of_getElem? (i := 204) (by rfl))) (by rfl)
theorem u5_205 : Cond.methodLink RX12 203 yX12_opens ∈ UU := uu_of (tb5 (List.mem_of_getElem? (i := 205) (by rfl))) (by rfl)
theorem u5_207 : Cond.instanceMethod yX12_opens ∈ UU := uu_of (tb5 (List.mem_of_getElem? (i := 207) (by rfl))) (by rfl)
theorem u5_208 : Cond.code yX12_opens cX12_opens 1 (some FieldType.boolean) ∈ UU := uu_of (tb5 (List.mem_of_getElem? (i := 208) (by rfl))) (by rfl)
theorem u5_209 : Cond.methodLink RX12 196 yX12_addStep ∈ UU := uu_of (tb5 (List.mem_of_getElem? (i := 209) (by rfl))) (by rfl)
theorem u5_211 : Cond.instanceMethod yX12_addStep ∈ UU := uu_of (tb5 (List.mem_of_getElem? (i := 211) (by rfl))) (by rfl)
theorem u5_212 : Cond.code yX12_addStep cX12_addStep 3 none ∈ UU := uu_of (tb5 (List.mem_of_getElem? (i := 212) (by rfl))) (by rfl)
theorem u5_213 : Cond.methodLink RX12 207 yX12_sum ∈ UU := uu_of (tb5 (List.mem_of_getElem? (i := 213) (by rfl))) (by rfl)
theorem u5_215 : Cond.instanceMethod yX12_sum ∈ UU := uu_of (tb5 (List.mem_of_getElem? (i := 215) (by rfl))) (by rfl)
theorem u5_216 : Cond.code yX12_sum cX12_sum 2 none ∈ UU := uu_of (tb5 (List.mem_of_getElem? (i := 216) (by rfl))) (by rfl)
theorem u5_217 : Cond.methodLink RX12 213 yX12_term ∈ UU := uu_of (tb5 (List.mem_of_getElem? (i := 217) (by rfl))) (by rfl)
theorem u5_219 : Cond.instanceMethod yX12_term ∈ UU := uu_of (tb5 (List.mem_of_getElem? (i := 219) (by rfl))) (by rfl)
theorem u5_220 : Cond.code yX12_term cX12_term 1 none ∈ UU := uu_of (tb5 (List.mem_of_getElem? (i := 220) (by rfl))) (by rfl)
theorem u5_221 : Cond.methodLink RX12 216 yX12_one ∈ UU := uu_of (tb5 (List.mem_of_getElem? (i := 221) (by rfl))) (by rfl)
theorem u5_223 : Cond.instanceMethod yX12_one ∈ UU := uu_of (tb5 (List.mem_of_getElem? (i := 223) (by rfl))) (by rfl)
theorem u5_224 : Cond.code yX12_one cX12_one 1 none ∈ UU := uu_of (tb5 (List.mem_of_getElem? (i := 224) (by rfl))) (by rfl)
theorem u5_225 : Cond.methodLink RX12 210 yX12_isSign ∈ UU := uu_of (tb5 (List.mem_of_getElem? (i := 225) (by rfl))) (by rfl)
theorem u5_227 : Cond.instanceMethod yX12_isSign ∈ UU := uu_of (tb5 (List.mem_of_getElem? (i := 227) (by rfl))) (by rfl)
theorem u5_228 : Cond.code yX12_isSign cX12_isSign 2 (some FieldType.boolean) ∈ UU := uu_of (tb5 (List.mem_of_getElem? (i := 228) (by rfl))) (by rfl)
theorem u5_229 : Cond.methodLink RL 48 yX12_force ∈ UU := uu_of (tb5 (List.mem_of_getElem? (i := 229) (by rfl))) (by rfl)
theorem u5_230 : Cond.instanceMethod yX12_force ∈ UU := uu_of (tb5 (List.mem_of_getElem? (i := 230) (by rfl))) (by rfl)
theorem u5_231 : Cond.selects RX12 yX12_force yX12_force ∈ UU := uu_of (tb5 (List.mem_of_getElem? (i := 231) (by rfl))) (by rfl)
theorem u5_232 : Cond.code yX12_force cX12_force 3 (some FieldType.int) ∈ UU := uu_of (tb5 (List.mem_of_getElem? (i := 232) (by rfl))) (by rfl)
theorem u5_233 : Cond.methodLink RL 52 yX12_sing ∈ UU := uu_of (tb5 (List.mem_of_getElem? (i := 233) (by rfl))) (by rfl)
theorem u5_234 : Cond.instanceMethod yX12_sing ∈ UU := uu_of (tb5 (List.mem_of_getElem? (i := 234) (by rfl))) (by rfl)
theorem u5_235 : Cond.selects RX12 yX12_sing yX12_sing ∈ UU := uu_of (tb5 (List.mem_of_getElem? (i := 235) (by rfl))) (by rfl)
theorem u5_236 : Cond.code yX12_sing cX12_sing 5 (some FieldType.int) ∈ UU := uu_of (tb5 (List.mem_of_getElem? (i := 236) (by rfl))) (by rfl)
theorem u5_237 : Cond.methodLink RX12 263 yX12_isWay ∈ UU := uu_of (tb5 (List.mem_of_getElem? (i := 237) (by rfl))) (by rfl)
theorem u5_239 : Cond.instanceMethod yX12_isWay ∈ UU := uu_of (tb5 (List.mem_of_getElem? (i := 239) (by rfl))) (by rfl)
theorem u6_0 : Cond.code yX12_isWay cX12_isWay 2 (some FieldType.boolean) ∈ UU := uu_of (tb6 (List.mem_of_getElem? (i := 0) (by rfl))) (by rfl)
theorem u6_1 : Cond.methodLink RX12 266 yX12_isStep ∈ UU := uu_of (tb6 (List.mem_of_getElem? (i := 1) (by rfl))) (by rfl)
theorem u6_3 : Cond.instanceMethod yX12_isStep ∈ UU := uu_of (tb6 (List.mem_of_getElem? (i := 3) (by rfl))) (by rfl)
theorem u6_4 : Cond.code yX12_isStep cX12_isStep 2 (some FieldType.boolean) ∈ UU := uu_of (tb6 (List.mem_of_getElem? (i := 4) (by rfl))) (by rfl)
theorem u6_5 : Cond.methodLink RX12 269 yX12_isMissing ∈ UU := uu_of (tb6 (List.mem_of_getElem? (i := 5) (by rfl))) (by rfl)
theorem u6_7 : Cond.instanceMethod yX12_isMissing ∈ UU := uu_of (tb6 (List.mem_of_getElem? (i := 7) (by rfl))) (by rfl)
theorem u6_8 : Cond.code yX12_isMissing cX12_isMissing 2 (some FieldType.boolean) ∈ UU := uu_of (tb6 (List.mem_of_getElem? (i := 8) (by rfl))) (by rfl)
theorem u6_9 : Cond.methodLink RX12 272 yX12_begin ∈ UU := uu_of (tb6 (List.mem_of_getElem? (i := 9) (by rfl))) (by rfl)
theorem u6_11 : Cond.instanceMethod yX12_begin ∈ UU := uu_of (tb6 (List.mem_of_getElem? (i := 11) (by rfl))) (by rfl)
theorem u6_12 : Cond.code yX12_begin cX12_begin 2 none ∈ UU := uu_of (tb6 (List.mem_of_getElem? (i := 12) (by rfl))) (by rfl)
theorem u6_13 : Cond.methodLink RX12 275 yX12_go ∈ UU := uu_of (tb6 (List.mem_of_getElem? (i := 13) (by rfl))) (by rfl)
theorem u6_15 : Cond.instanceMethod yX12_go ∈ UU := uu_of (tb6 (List.mem_of_getElem? (i := 15) (by rfl))) (by rfl)
theorem u6_16 : Cond.code yX12_go cX12_go 4 none ∈ UU := uu_of (tb6 (List.mem_of_getElem? (i := 16) (by rfl))) (by rfl)
theorem u6_17 : Cond.methodLink RX12 260 yX12_breathes ∈ UU := uu_of (tb6 (List.mem_of_getElem? (i := 17) (by rfl))) (by rfl)
theorem u6_19 : Cond.instanceMethod yX12_breathes ∈ UU := uu_of (tb6 (List.mem_of_getElem? (i := 19) (by rfl))) (by rfl)
theorem u6_20 : Cond.code yX12_breathes cX12_breathes 4 (some FieldType.boolean) ∈ UU := uu_of (tb6 (List.mem_of_getElem? (i := 20) (by rfl))) (by rfl)
theorem u6_21 : Cond.methodLink RX12 248 yX12_isPlanned ∈ UU := uu_of (tb6 (List.mem_of_getElem? (i := 21) (by rfl))) (by rfl)
theorem u6_23 : Cond.instanceMethod yX12_isPlanned ∈ UU := uu_of (tb6 (List.mem_of_getElem? (i := 23) (by rfl))) (by rfl)
theorem u6_24 : Cond.code yX12_isPlanned cX12_isPlanned 5 (some FieldType.boolean) ∈ UU := uu_of (tb6 (List.mem_of_getElem? (i := 24) (by rfl))) (by rfl)
theorem u6_25 : Cond.methodLink RX12 244 yX12_loudAt ∈ UU := uu_of (tb6 (List.mem_of_getElem? (i := 25) (by rfl))) (by rfl)
theorem u6_27 : Cond.instanceMethod yX12_loudAt ∈ UU := uu_of (tb6 (List.mem_of_getElem? (i := 27) (by rfl))) (by rfl)
theorem u6_28 : Cond.code yX12_loudAt cX12_loudAt 2 (some FieldType.int) ∈ UU := uu_of (tb6 (List.mem_of_getElem? (i := 28) (by rfl))) (by rfl)
theorem u6_29 : Cond.methodLink RX12 251 yX12_findFacts ∈ UU := uu_of (tb6 (List.mem_of_getElem? (i := 29) (by rfl))) (by rfl)
theorem u6_31 : Cond.instanceMethod yX12_findFacts ∈ UU := uu_of (tb6 (List.mem_of_getElem? (i := 31) (by rfl))) (by rfl)
theorem u6_32 : Cond.code yX12_findFacts cX12_findFacts 4 none ∈ UU := uu_of (tb6 (List.mem_of_getElem? (i := 32) (by rfl))) (by rfl)
theorem u6_33 : Cond.methodLink RX12 254 yX12_gives ∈ UU := uu_of (tb6 (List.mem_of_getElem? (i := 33) (by rfl))) (by rfl)
theorem u6_35 : Cond.instanceMethod yX12_gives ∈ UU := uu_of (tb6 (List.mem_of_getElem? (i := 35) (by rfl))) (by rfl)
theorem u6_36 : Cond.code yX12_gives cX12_gives 5 (some FieldType.int) ∈ UU := uu_of (tb6 (List.mem_of_getElem? (i := 36) (by rfl))) (by rfl)
theorem u6_37 : Cond.methodLink RX12 229 yX12_twoOf ∈ UU := uu_of (tb6 (List.mem_of_getElem? (i := 37) (by rfl))) (by rfl)
theorem u6_38 : Cond.static yX12_twoOf ∈ UU := uu_of (tb6 (List.mem_of_getElem? (i := 38) (by rfl))) (by rfl)
theorem u6_39 : Cond.code yX12_twoOf cX12_twoOf 3 (some FieldType.int) ∈ UU := uu_of (tb6 (List.mem_of_getElem? (i := 39) (by rfl))) (by rfl)
theorem u6_40 : Cond.methodLink RL 56 yX12_of ∈ UU := uu_of (tb6 (List.mem_of_getElem? (i := 40) (by rfl))) (by rfl)
theorem u6_41 : Cond.instanceMethod yX12_of ∈ UU := uu_of (tb6 (List.mem_of_getElem? (i := 41) (by rfl))) (by rfl)
theorem u6_42 : Cond.selects RX12 yX12_of yX12_of ∈ UU := uu_of (tb6 (List.mem_of_getElem? (i := 42) (by rfl))) (by rfl)
theorem u6_43 : Cond.code yX12_of cX12_of 5 (some FieldType.int) ∈ UU := uu_of (tb6 (List.mem_of_getElem? (i := 43) (by rfl))) (by rfl)
theorem u6_44 : Cond.methodLink RX12 278 yX12_ofVoice ∈ UU := uu_of (tb6 (List.mem_of_getElem? (i := 44) (by rfl))) (by rfl)
theorem u6_46 : Cond.instanceMethod yX12_ofVoice ∈ UU := uu_of (tb6 (List.mem_of_getElem? (i := 46) (by rfl))) (by rfl)
theorem u6_47 : Cond.code yX12_ofVoice cX12_ofVoice 4 (some FieldType.int) ∈ UU := uu_of (tb6 (List.mem_of_getElem? (i := 47) (by rfl))) (by rfl)
theorem u6_48 : Cond.methodLink RL 60 yX12_wrong ∈ UU := uu_of (tb6 (List.mem_of_getElem? (i := 48) (by rfl))) (by rfl)
theorem u6_49 : Cond.instanceMethod yX12_wrong ∈ UU := uu_of (tb6 (List.mem_of_getElem? (i := 49) (by rfl))) (by rfl)
theorem u6_50 : Cond.selects RX12 yX12_wrong yX12_wrong ∈ UU := uu_of (tb6 (List.mem_of_getElem? (i := 50) (by rfl))) (by rfl)
theorem u6_51 : Cond.code yX12_wrong cX12_wrong 4 (some FieldType.int) ∈ UU := uu_of (tb6 (List.mem_of_getElem? (i := 51) (by rfl))) (by rfl)
theorem u6_52 : Cond.methodLink RX12 284 yX12_beginThin ∈ UU := uu_of (tb6 (List.mem_of_getElem? (i := 52) (by rfl))) (by rfl)
theorem u6_54 : Cond.instanceMethod yX12_beginThin ∈ UU := uu_of (tb6 (List.mem_of_getElem? (i := 54) (by rfl))) (by rfl)
theorem u6_55 : Cond.code yX12_beginThin cX12_beginThin 2 none ∈ UU := uu_of (tb6 (List.mem_of_getElem? (i := 55) (by rfl))) (by rfl)
theorem u6_56 : Cond.methodLink RX12 287 yX12_lookThin ∈ UU := uu_of (tb6 (List.mem_of_getElem? (i := 56) (by rfl))) (by rfl)
theorem u6_58 : Cond.instanceMethod yX12_lookThin ∈ UU := uu_of (tb6 (List.mem_of_getElem? (i := 58) (by rfl))) (by rfl)
theorem u6_59 : Cond.code yX12_lookThin cX12_lookThin 2 none ∈ UU := uu_of (tb6 (List.mem_of_getElem? (i := 59) (by rfl))) (by rfl)
theorem u6_60 : Cond.methodLink RX12 290 yX12_wrongIn ∈ UU := uu_of (tb6 (List.mem_of_getElem? (i := 60) (by rfl))) (by rfl)
theorem u6_62 : Cond.instanceMethod yX12_wrongIn ∈ UU := uu_of (tb6 (List.mem_of_getElem? (i := 62) (by rfl))) (by rfl)
theorem u6_63 : Cond.code yX12_wrongIn cX12_wrongIn 4 (some FieldType.int) ∈ UU := uu_of (tb6 (List.mem_of_getElem? (i := 63) (by rfl))) (by rfl)
theorem u6_64 : Cond.methodLink RX12 281 yX12_isHeard ∈ UU := uu_of (tb6 (List.mem_of_getElem? (i := 64) (by rfl))) (by rfl)
theorem u6_66 : Cond.instanceMethod yX12_isHeard ∈ UU := uu_of (tb6 (List.mem_of_getElem? (i := 66) (by rfl))) (by rfl)
theorem u6_67 : Cond.code yX12_isHeard cX12_isHeard 2 (some FieldType.boolean) ∈ UU := uu_of (tb6 (List.mem_of_getElem? (i := 67) (by rfl))) (by rfl)
theorem u6_68 : Cond.methodLink RL 65 yX12_bad ∈ UU := uu_of (tb6 (List.mem_of_getElem? (i := 68) (by rfl))) (by rfl)
theorem u6_69 : Cond.instanceMethod yX12_bad ∈ UU := uu_of (tb6 (List.mem_of_getElem? (i := 69) (by rfl))) (by rfl)
theorem u6_70 : Cond.selects RX12 yX12_bad yX12_bad ∈ UU := uu_of (tb6 (List.mem_of_getElem? (i := 70) (by rfl))) (by rfl)
theorem u6_71 : Cond.code yX12_bad cX12_bad 2 (some FieldType.long) ∈ UU := uu_of (tb6 (List.mem_of_getElem? (i := 71) (by rfl))) (by rfl)
theorem u6_72 : Cond.constantLong RX12 296 (-4611686018427387904) ∈ UU := uu_of (tb6 (List.mem_of_getElem? (i := 72) (by rfl))) (by rfl)
theorem u6_73 : Cond.methodLink RX12 298 yX12_badOf ∈ UU := uu_of (tb6 (List.mem_of_getElem? (i := 73) (by rfl))) (by rfl)
theorem u6_75 : Cond.instanceMethod yX12_badOf ∈ UU := uu_of (tb6 (List.mem_of_getElem? (i := 75) (by rfl))) (by rfl)
theorem u6_76 : Cond.code yX12_badOf cX12_badOf 7 (some FieldType.long) ∈ UU := uu_of (tb6 (List.mem_of_getElem? (i := 76) (by rfl))) (by rfl)
theorem u6_77 : Cond.methodLink RX12 293 yX12_held ∈ UU := uu_of (tb6 (List.mem_of_getElem? (i := 77) (by rfl))) (by rfl)
theorem u6_78 : Cond.static yX12_held ∈ UU := uu_of (tb6 (List.mem_of_getElem? (i := 78) (by rfl))) (by rfl)
theorem u6_79 : Cond.code yX12_held cX12_held 2 (some FieldType.int) ∈ UU := uu_of (tb6 (List.mem_of_getElem? (i := 79) (by rfl))) (by rfl)
theorem u6_80 : Cond.methodLink RL 69 yX12_breaths ∈ UU := uu_of (tb6 (List.mem_of_getElem? (i := 80) (by rfl))) (by rfl)
theorem u6_81 : Cond.instanceMethod yX12_breaths ∈ UU := uu_of (tb6 (List.mem_of_getElem? (i := 81) (by rfl))) (by rfl)
theorem u6_82 : Cond.selects RX12 yX12_breaths yX12_breaths ∈ UU := uu_of (tb6 (List.mem_of_getElem? (i := 82) (by rfl))) (by rfl)
theorem u6_83 : Cond.code yX12_breaths cX12_breaths 5 (some FieldType.int) ∈ UU := uu_of (tb6 (List.mem_of_getElem? (i := 83) (by rfl))) (by rfl)
theorem u6_84 : Cond.methodLink RL 73 yX12_fewest ∈ UU := uu_of (tb6 (List.mem_of_getElem? (i := 84) (by rfl))) (by rfl)
theorem u6_85 : Cond.instanceMethod yX12_fewest ∈ UU := uu_of (tb6 (List.mem_of_getElem? (i := 85) (by rfl))) (by rfl)
theorem u6_86 : Cond.selects RX12 yX12_fewest yX12_fewest ∈ UU := uu_of (tb6 (List.mem_of_getElem? (i := 86) (by rfl))) (by rfl)
theorem u6_87 : Cond.code yX12_fewest cX12_fewest 4 (some FieldType.int) ∈ UU := uu_of (tb6 (List.mem_of_getElem? (i := 87) (by rfl))) (by rfl)
theorem u6_88 : Cond.methodLink RL 77 yX12_round ∈ UU := uu_of (tb6 (List.mem_of_getElem? (i := 88) (by rfl))) (by rfl)
theorem u6_89 : Cond.instanceMethod yX12_round ∈ UU := uu_of (tb6 (List.mem_of_getElem? (i := 89) (by rfl))) (by rfl)
theorem u6_90 : Cond.selects RX12 yX12_round yX12_round ∈ UU := uu_of (tb6 (List.mem_of_getElem? (i := 90) (by rfl))) (by rfl)
theorem u6_91 : Cond.code yX12_round cX12_round 6 (some FieldType.int) ∈ UU := uu_of (tb6 (List.mem_of_getElem? (i := 91) (by rfl))) (by rfl)
theorem u6_92 : Cond.methodLink RX12 302 yX12_isLike ∈ UU := uu_of (tb6 (List.mem_of_getElem? (i := 92) (by rfl))) (by rfl)
theorem u6_94 : Cond.instanceMethod yX12_isLike ∈ UU := uu_of (tb6 (List.mem_of_getElem? (i := 94) (by rfl))) (by rfl)
theorem u6_95 : Cond.code yX12_isLike cX12_isLike 4 (some FieldType.boolean) ∈ UU := uu_of (tb6 (List.mem_of_getElem? (i := 95) (by rfl))) (by rfl)
theorem u6_96 : Cond.methodLink RL 82 yX12_lent ∈ UU := uu_of (tb6 (List.mem_of_getElem? (i := 96) (by rfl))) (by rfl)
theorem u6_97 : Cond.instanceMethod yX12_lent ∈ UU := uu_of (tb6 (List.mem_of_getElem? (i := 97) (by rfl))) (by rfl)
theorem u6_98 : Cond.selects RX12 yX12_lent yX12_lent ∈ UU := uu_of (tb6 (List.mem_of_getElem? (i := 98) (by rfl))) (by rfl)
theorem u6_99 : Cond.code yX12_lent cX12_lent 9 (some FieldType.long) ∈ UU := uu_of (tb6 (List.mem_of_getElem? (i := 99) (by rfl))) (by rfl)
theorem u6_100 : Cond.methodLink RL 86 yX12_lost ∈ UU := uu_of (tb6 (List.mem_of_getElem? (i := 100) (by rfl))) (by rfl)
theorem u6_101 : Cond.instanceMethod yX12_lost ∈ UU := uu_of (tb6 (List.mem_of_getElem? (i := 101) (by rfl))) (by rfl)
theorem u6_102 : Cond.selects RX12 yX12_lost yX12_lost ∈ UU := uu_of (tb6 (List.mem_of_getElem? (i := 102) (by rfl))) (by rfl)
theorem u6_103 : Cond.code yX12_lost cX12_lost 6 (some FieldType.long) ∈ UU := uu_of (tb6 (List.mem_of_getElem? (i := 103) (by rfl))) (by rfl)
theorem u6_104 : Cond.methodLink RL 90 yX12_who ∈ UU := uu_of (tb6 (List.mem_of_getElem? (i := 104) (by rfl))) (by rfl)
theorem u6_105 : Cond.instanceMethod yX12_who ∈ UU := uu_of (tb6 (List.mem_of_getElem? (i := 105) (by rfl))) (by rfl)
theorem u6_106 : Cond.selects RX12 yX12_who yX12_who ∈ UU := uu_of (tb6 (List.mem_of_getElem? (i := 106) (by rfl))) (by rfl)
theorem u6_107 : Cond.code yX12_who cX12_who 9 (some FieldType.int) ∈ UU := uu_of (tb6 (List.mem_of_getElem? (i := 107) (by rfl))) (by rfl)
theorem u6_108 : Cond.methodLink RX12 305 yX12_isSheet ∈ UU := uu_of (tb6 (List.mem_of_getElem? (i := 108) (by rfl))) (by rfl)
theorem u6_109 : Cond.static yX12_isSheet ∈ UU := uu_of (tb6 (List.mem_of_getElem? (i := 109) (by rfl))) (by rfl)
theorem u6_110 : Cond.code yX12_isSheet cX12_isSheet 1 (some FieldType.boolean) ∈ UU := uu_of (tb6 (List.mem_of_getElem? (i := 110) (by rfl))) (by rfl)
theorem u6_111 : Cond.methodLink RL 94 yX12_image ∈ UU := uu_of (tb6 (List.mem_of_getElem? (i := 111) (by rfl))) (by rfl)
theorem u6_112 : Cond.instanceMethod yX12_image ∈ UU := uu_of (tb6 (List.mem_of_getElem? (i := 112) (by rfl))) (by rfl)
theorem u6_113 : Cond.selects RX12 yX12_image yX12_image ∈ UU := uu_of (tb6 (List.mem_of_getElem? (i := 113) (by rfl))) (by rfl)
theorem u6_114 : Cond.code yX12_image cX12_image 2 (some FieldType.int) ∈ UU := uu_of (tb6 (List.mem_of_getElem? (i := 114) (by rfl))) (by rfl)
theorem u6_115 : Cond.methodLink RL 98 yX12_back ∈ UU := uu_of (tb6 (List.mem_of_getElem? (i := 115) (by rfl))) (by rfl)
theorem u6_116 : Cond.instanceMethod yX12_back ∈ UU := uu_of (tb6 (List.mem_of_getElem? (i := 116) (by rfl))) (by rfl)
theorem u6_117 : Cond.selects RX12 yX12_back yX12_back ∈ UU := uu_of (tb6 (List.mem_of_getElem? (i := 117) (by rfl))) (by rfl)
theorem u6_118 : Cond.code yX12_back cX12_back 2 (some FieldType.int) ∈ UU := uu_of (tb6 (List.mem_of_getElem? (i := 118) (by rfl))) (by rfl)
theorem u6_119 : Cond.methodLink RL 102 yX12_count ∈ UU := uu_of (tb6 (List.mem_of_getElem? (i := 119) (by rfl))) (by rfl)
theorem u6_120 : Cond.instanceMethod yX12_count ∈ UU := uu_of (tb6 (List.mem_of_getElem? (i := 120) (by rfl))) (by rfl)
theorem u6_121 : Cond.selects RX12 yX12_count yX12_count ∈ UU := uu_of (tb6 (List.mem_of_getElem? (i := 121) (by rfl))) (by rfl)
theorem u6_122 : Cond.code yX12_count cX12_count 4 (some FieldType.int) ∈ UU := uu_of (tb6 (List.mem_of_getElem? (i := 122) (by rfl))) (by rfl)
theorem u6_123 : Cond.methodLink RL 106 yX12_sheet ∈ UU := uu_of (tb6 (List.mem_of_getElem? (i := 123) (by rfl))) (by rfl)
theorem u6_124 : Cond.instanceMethod yX12_sheet ∈ UU := uu_of (tb6 (List.mem_of_getElem? (i := 124) (by rfl))) (by rfl)
theorem u6_125 : Cond.selects RX12 yX12_sheet yX12_sheet ∈ UU := uu_of (tb6 (List.mem_of_getElem? (i := 125) (by rfl))) (by rfl)
theorem u6_126 : Cond.code yX12_sheet cX12_sheet 5 (some FieldType.int) ∈ UU := uu_of (tb6 (List.mem_of_getElem? (i := 126) (by rfl))) (by rfl)
theorem u6_127 : Cond.methodLink RL 110 yX12_cell ∈ UU := uu_of (tb6 (List.mem_of_getElem? (i := 127) (by rfl))) (by rfl)
theorem u6_128 : Cond.instanceMethod yX12_cell ∈ UU := uu_of (tb6 (List.mem_of_getElem? (i := 128) (by rfl))) (by rfl)
theorem u6_129 : Cond.selects RX12 yX12_cell yX12_cell ∈ UU := uu_of (tb6 (List.mem_of_getElem? (i := 129) (by rfl))) (by rfl)
theorem u6_130 : Cond.code yX12_cell cX12_cell 4 (some FieldType.int) ∈ UU := uu_of (tb6 (List.mem_of_getElem? (i := 130) (by rfl))) (by rfl)
theorem u6_131 : Cond.methodLink RL 115 yX12_copy ∈ UU := uu_of (tb6 (List.mem_of_getElem? (i := 131) (by rfl))) (by rfl)
theorem u6_132 : Cond.instanceMethod yX12_copy ∈ UU := uu_of (tb6 (List.mem_of_getElem? (i := 132) (by rfl))) (by rfl)
theorem u6_133 : Cond.selects RX12 yX12_copy yX12_copy ∈ UU := uu_of (tb6 (List.mem_of_getElem? (i := 133) (by rfl))) (by rfl)
theorem u6_134 : Cond.code yX12_copy cX12_copy 7 (some FieldType.int) ∈ UU := uu_of (tb6 (List.mem_of_getElem? (i := 134) (by rfl))) (by rfl)
theorem u6_135 : Cond.methodLink RL 119 yX12_singers ∈ UU := uu_of (tb6 (List.mem_of_getElem? (i := 135) (by rfl))) (by rfl)
theorem u6_136 : Cond.instanceMethod yX12_singers ∈ UU := uu_of (tb6 (List.mem_of_getElem? (i := 136) (by rfl))) (by rfl)
theorem u6_137 : Cond.selects RX12 yX12_singers yX12_singers ∈ UU := uu_of (tb6 (List.mem_of_getElem? (i := 137) (by rfl))) (by rfl)
theorem u6_138 : Cond.code yX12_singers cX12_singers 10 (some FieldType.int) ∈ UU := uu_of (tb6 (List.mem_of_getElem? (i := 138) (by rfl))) (by rfl)
theorem u6_139 : Cond.constantLong RX12 324 2 ∈ UU := uu_of (tb6 (List.mem_of_getElem? (i := 139) (by rfl))) (by rfl)
theorem u6_140 : Cond.methodLink RX12 326 yX12_singer ∈ UU := uu_of (tb6 (List.mem_of_getElem? (i := 140) (by rfl))) (by rfl)
theorem u6_141 : Cond.methodLink RL 123 yX12_taken ∈ UU := uu_of (tb6 (List.mem_of_getElem? (i := 141) (by rfl))) (by rfl)
theorem u6_142 : Cond.instanceMethod yX12_taken ∈ UU := uu_of (tb6 (List.mem_of_getElem? (i := 142) (by rfl))) (by rfl)
theorem u6_143 : Cond.selects RX12 yX12_taken yX12_taken ∈ UU := uu_of (tb6 (List.mem_of_getElem? (i := 143) (by rfl))) (by rfl)
theorem u6_144 : Cond.code yX12_taken cX12_taken 3 (some FieldType.int) ∈ UU := uu_of (tb6 (List.mem_of_getElem? (i := 144) (by rfl))) (by rfl)
theorem u6_145 : Cond.methodLink RX12 329 yX12_isUnder ∈ UU := uu_of (tb6 (List.mem_of_getElem? (i := 145) (by rfl))) (by rfl)
theorem u6_146 : Cond.static yX12_isUnder ∈ UU := uu_of (tb6 (List.mem_of_getElem? (i := 146) (by rfl))) (by rfl)
theorem u6_147 : Cond.code yX12_isUnder cX12_isUnder 2 (some FieldType.boolean) ∈ UU := uu_of (tb6 (List.mem_of_getElem? (i := 147) (by rfl))) (by rfl)
theorem u6_148 : Cond.constantLong RL 32 4294967295 ∈ UU := uu_of (tb6 (List.mem_of_getElem? (i := 148) (by rfl))) (by rfl)
theorem u6_149 : Cond.sameMethod RX8 RX8 "reach" "(II)I" ∈ UU := uu_of (tb6 (List.mem_of_getElem? (i := 149) (by rfl))) (by rfl)
theorem u6_150 : Cond.sameMethod RX10 RX10 "reach" "(II)I" ∈ UU := uu_of (tb6 (List.mem_of_getElem? (i := 150) (by rfl))) (by rfl)
theorem u6_151 : Cond.sameMethod RX8 RX8 "isUnder" "(I)Z" ∈ UU := uu_of (tb6 (List.mem_of_getElem? (i := 151) (by rfl))) (by rfl)
theorem u6_152 : Cond.sameMethod RX10 RX10 "isUnder" "(I)Z" ∈ UU := uu_of (tb6 (List.mem_of_getElem? (i := 152) (by rfl))) (by rfl)
theorem u6_158 : Cond.fieldLink RJ0 9 RJ0 "value" "[B" ∈ UU := uu_of (tb6 (List.mem_of_getElem? (i := 158) (by rfl))) (by rfl)
theorem u6_159 : Cond.fieldLink RJ0 15 RJ0 "coder" "B" ∈ UU := uu_of (tb6 (List.mem_of_getElem? (i := 159) (by rfl))) (by rfl)
theorem up_0 : Cond.selects RX5 yX5_advance yX5_advance ∈ UU := uu_ofp (List.mem_of_getElem? (i := 0) (by rfl)) (by rfl)
theorem up_1 : Cond.selects RX5 yX5_readWord yX5_readWord ∈ UU := uu_ofp (List.mem_of_getElem? (i := 1) (by rfl)) (by rfl)
theorem up_2 : Cond.selects RX5 yX5_isWord yX5_isWord ∈ UU := uu_ofp (List.mem_of_getElem? (i := 2) (by rfl)) (by rfl)
theorem up_3 : Cond.selects RX5 yX5_readNumber yX5_readNumber ∈ UU := uu_ofp (List.mem_of_getElem? (i := 3) (by rfl)) (by rfl)
theorem up_4 : Cond.selects RX5 yX5_readSign yX5_readSign ∈ UU := uu_ofp (List.mem_of_getElem? (i := 4) (by rfl)) (by rfl)
theorem up_5 : Cond.selects RX5 yX5_pass yX5_pass ∈ UU := uu_ofp (List.mem_of_getElem? (i := 5) (by rfl)) (by rfl)
theorem up_6 : Cond.selects RX5 yX5_either yX5_either ∈ UU := uu_ofp (List.mem_of_getElem? (i := 6) (by rfl)) (by rfl)
theorem up_7 : Cond.selects RX5 yX5_both yX5_both ∈ UU := uu_ofp (List.mem_of_getElem? (i := 7) (by rfl)) (by rfl)
theorem up_8 : Cond.selects RX5 yX5_negated yX5_negated ∈ UU := uu_ofp (List.mem_of_getElem? (i := 8) (by rfl)) (by rfl)
theorem up_9 : Cond.selects RX5 yX5_enter yX5_enter ∈ UU := uu_ofp (List.mem_of_getElem? (i := 9) (by rfl)) (by rfl)
theorem up_10 : Cond.selects RX5 yX5_emit yX5_emit ∈ UU := uu_ofp (List.mem_of_getElem? (i := 10) (by rfl)) (by rfl)
theorem up_11 : Cond.selects RX5 yX5_sum yX5_sum ∈ UU := uu_ofp (List.mem_of_getElem? (i := 11) (by rfl)) (by rfl)
theorem up_12 : Cond.selects RX5 yX5_product yX5_product ∈ UU := uu_ofp (List.mem_of_getElem? (i := 12) (by rfl)) (by rfl)
theorem up_13 : Cond.selects RX5 yX5_one yX5_one ∈ UU := uu_ofp (List.mem_of_getElem? (i := 13) (by rfl)) (by rfl)
theorem up_14 : Cond.selects RX11 yX11_keepText yX11_keepText ∈ UU := uu_ofp (List.mem_of_getElem? (i := 14) (by rfl)) (by rfl)
theorem up_15 : Cond.selects RX11 yX11_isMissing yX11_isMissing ∈ UU := uu_ofp (List.mem_of_getElem? (i := 15) (by rfl)) (by rfl)
theorem up_16 : Cond.selects RX11 yX11_perform yX11_perform ∈ UU := uu_ofp (List.mem_of_getElem? (i := 16) (by rfl)) (by rfl)
theorem up_17 : Cond.selects RX11 yX11_prepare yX11_prepare ∈ UU := uu_ofp (List.mem_of_getElem? (i := 17) (by rfl)) (by rfl)
theorem up_18 : Cond.selects RX1 yX1_begins yX1_begins ∈ UU := uu_ofp (List.mem_of_getElem? (i := 18) (by rfl)) (by rfl)
theorem up_19 : Cond.selects RX1 yX1_ruleTells yX1_ruleTells ∈ UU := uu_ofp (List.mem_of_getElem? (i := 19) (by rfl)) (by rfl)
theorem up_20 : Cond.selects RX1 yX1_isSilent yX1_isSilent ∈ UU := uu_ofp (List.mem_of_getElem? (i := 20) (by rfl)) (by rfl)
theorem up_21 : Cond.selects RX1 yX1_listen yX1_listen ∈ UU := uu_ofp (List.mem_of_getElem? (i := 21) (by rfl)) (by rfl)
theorem up_22 : Cond.selects RX1 yX1_isHeard yX1_isHeard ∈ UU := uu_ofp (List.mem_of_getElem? (i := 22) (by rfl)) (by rfl)
theorem up_23 : Cond.selects RX1 yX1_isSaid yX1_isSaid ∈ UU := uu_ofp (List.mem_of_getElem? (i := 23) (by rfl)) (by rfl)
theorem up_24 : Cond.selects RX11 yX11_earlierLike yX11_earlierLike ∈ UU := uu_ofp (List.mem_of_getElem? (i := 24) (by rfl)) (by rfl)
theorem up_25 : Cond.selects RX12 yX12_isSinger yX12_isSinger ∈ UU := uu_ofp (List.mem_of_getElem? (i := 25) (by rfl)) (by rfl)
theorem up_26 : Cond.selects RX12 yX12_canHold yX12_canHold ∈ UU := uu_ofp (List.mem_of_getElem? (i := 26) (by rfl)) (by rfl)
theorem up_27 : Cond.selects RX12 yX12_takes yX12_takes ∈ UU := uu_ofp (List.mem_of_getElem? (i := 27) (by rfl)) (by rfl)
theorem up_28 : Cond.selects RX12 yX12_doesSay yX12_doesSay ∈ UU := uu_ofp (List.mem_of_getElem? (i := 28) (by rfl)) (by rfl)
theorem up_29 : Cond.selects RX12 yX12_next yX12_next ∈ UU := uu_ofp (List.mem_of_getElem? (i := 29) (by rfl)) (by rfl)
theorem up_30 : Cond.selects RX12 yX12_wordNow yX12_wordNow ∈ UU := uu_ofp (List.mem_of_getElem? (i := 30) (by rfl)) (by rfl)
theorem up_31 : Cond.selects RX12 yX12_rule yX12_rule ∈ UU := uu_ofp (List.mem_of_getElem? (i := 31) (by rfl)) (by rfl)
theorem up_32 : Cond.selects RX12 yX12_isKey yX12_isKey ∈ UU := uu_ofp (List.mem_of_getElem? (i := 32) (by rfl)) (by rfl)
theorem up_33 : Cond.selects RX12 yX12_faulty yX12_faulty ∈ UU := uu_ofp (List.mem_of_getElem? (i := 33) (by rfl)) (by rfl)
theorem up_34 : Cond.selects RX12 yX12_either yX12_either ∈ UU := uu_ofp (List.mem_of_getElem? (i := 34) (by rfl)) (by rfl)
theorem up_35 : Cond.selects RX12 yX12_all yX12_all ∈ UU := uu_ofp (List.mem_of_getElem? (i := 35) (by rfl)) (by rfl)
theorem up_36 : Cond.selects RX12 yX12_denied yX12_denied ∈ UU := uu_ofp (List.mem_of_getElem? (i := 36) (by rfl)) (by rfl)
theorem up_37 : Cond.selects RX12 yX12_opens yX12_opens ∈ UU := uu_ofp (List.mem_of_getElem? (i := 37) (by rfl)) (by rfl)
theorem up_38 : Cond.selects RX12 yX12_addStep yX12_addStep ∈ UU := uu_ofp (List.mem_of_getElem? (i := 38) (by rfl)) (by rfl)
theorem up_39 : Cond.selects RX12 yX12_sum yX12_sum ∈ UU := uu_ofp (List.mem_of_getElem? (i := 39) (by rfl)) (by rfl)
theorem up_40 : Cond.selects RX12 yX12_term yX12_term ∈ UU := uu_ofp (List.mem_of_getElem? (i := 40) (by rfl)) (by rfl)
theorem up_41 : Cond.selects RX12 yX12_one yX12_one ∈ UU := uu_ofp (List.mem_of_getElem? (i := 41) (by rfl)) (by rfl)
theorem up_42 : Cond.selects RX12 yX12_isSign yX12_isSign ∈ UU := uu_ofp (List.mem_of_getElem? (i := 42) (by rfl)) (by rfl)
theorem up_43 : Cond.selects RX12 yX12_isWay yX12_isWay ∈ UU := uu_ofp (List.mem_of_getElem? (i := 43) (by rfl)) (by rfl)
theorem up_44 : Cond.selects RX12 yX12_isStep yX12_isStep ∈ UU := uu_ofp (List.mem_of_getElem? (i := 44) (by rfl)) (by rfl)
theorem up_45 : Cond.selects RX12 yX12_isMissing yX12_isMissing ∈ UU := uu_ofp (List.mem_of_getElem? (i := 45) (by rfl)) (by rfl)
theorem up_46 : Cond.selects RX12 yX12_begin yX12_begin ∈ UU := uu_ofp (List.mem_of_getElem? (i := 46) (by rfl)) (by rfl)
theorem up_47 : Cond.selects RX12 yX12_go yX12_go ∈ UU := uu_ofp (List.mem_of_getElem? (i := 47) (by rfl)) (by rfl)
theorem up_48 : Cond.selects RX12 yX12_breathes yX12_breathes ∈ UU := uu_ofp (List.mem_of_getElem? (i := 48) (by rfl)) (by rfl)
theorem up_49 : Cond.selects RX12 yX12_isPlanned yX12_isPlanned ∈ UU := uu_ofp (List.mem_of_getElem? (i := 49) (by rfl)) (by rfl)
theorem up_50 : Cond.selects RX12 yX12_loudAt yX12_loudAt ∈ UU := uu_ofp (List.mem_of_getElem? (i := 50) (by rfl)) (by rfl)
theorem up_51 : Cond.selects RX12 yX12_findFacts yX12_findFacts ∈ UU := uu_ofp (List.mem_of_getElem? (i := 51) (by rfl)) (by rfl)
theorem up_52 : Cond.selects RX12 yX12_gives yX12_gives ∈ UU := uu_ofp (List.mem_of_getElem? (i := 52) (by rfl)) (by rfl)
theorem up_53 : Cond.selects RX12 yX12_ofVoice yX12_ofVoice ∈ UU := uu_ofp (List.mem_of_getElem? (i := 53) (by rfl)) (by rfl)
theorem up_54 : Cond.selects RX12 yX12_beginThin yX12_beginThin ∈ UU := uu_ofp (List.mem_of_getElem? (i := 54) (by rfl)) (by rfl)
theorem up_55 : Cond.selects RX12 yX12_lookThin yX12_lookThin ∈ UU := uu_ofp (List.mem_of_getElem? (i := 55) (by rfl)) (by rfl)
theorem up_56 : Cond.selects RX12 yX12_wrongIn yX12_wrongIn ∈ UU := uu_ofp (List.mem_of_getElem? (i := 56) (by rfl)) (by rfl)
theorem up_57 : Cond.selects RX12 yX12_isHeard yX12_isHeard ∈ UU := uu_ofp (List.mem_of_getElem? (i := 57) (by rfl)) (by rfl)
theorem up_58 : Cond.selects RX12 yX12_badOf yX12_badOf ∈ UU := uu_ofp (List.mem_of_getElem? (i := 58) (by rfl)) (by rfl)
theorem up_59 : Cond.selects RX12 yX12_isLike yX12_isLike ∈ UU := uu_ofp (List.mem_of_getElem? (i := 59) (by rfl)) (by rfl)
theorem inU0 : ∀ w ∈ u_ws RX0 TX0 3, w ∈ UU := by decide +kernel
theorem inU1 : ∀ w ∈ u_ws RX1 TX1 16, w ∈ UU := by decide +kernel
theorem inU2 : ∀ w ∈ u_ws RX2 TX2 3, w ∈ UU := by decide +kernel
theorem inU3 : ∀ w ∈ u_ws RX3 TX3 3, w ∈ UU := by decide +kernel
theorem inU4 : ∀ w ∈ u_ws RX4 TX4 8, w ∈ UU := by decide +kernel
theorem inU5 : ∀ w ∈ u_ws RX5 TX5 8, w ∈ UU := by decide +kernel
theorem inU6 : ∀ w ∈ u_ws RX6 TX6 3, w ∈ UU := by decide +kernel
theorem inU7 : ∀ w ∈ u_ws RX7 TX7 3, w ∈ UU := by decide +kernel
theorem inU8 : ∀ w ∈ u_ws RX8 TX8 3, w ∈ UU := by decide +kernel
theorem inU9 : ∀ w ∈ u_ws RX9 TX9 3, w ∈ UU := by decide +kernel
theorem inU10 : ∀ w ∈ u_ws RX10 TX10 3, w ∈ UU := by decide +kernel
theorem inU11 : ∀ w ∈ u_ws RX11 TX11 12, w ∈ UU := by decide +kernel
theorem inU12 : ∀ w ∈ u_ws RX12 TX12 58, w ∈ UU := by decide +kernel
abbrev vwCl : List vw_C := [(RX0, TX0, 3), (RX1, TX1, 16), (RX2, TX2, 3), (RX3, TX3, 3), (RX4, TX4, 8), (RX5, TX5, 8), (RX6, TX6, 3), (RX7, TX7, 3), (RX8, TX8, 3), (RX9, TX9, 3), (RX10, TX10, 3), (RX11, TX11, 12), (RX12, TX12, 58)]
end
