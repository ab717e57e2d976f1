section
-- ===== PART A: goes FIRST, ahead of the names: the tables' words, and 'selects' of the private methods out of them =====
/-- a private method of a class that the tables say can be made, by its rows of tables_1 -/
def lw_okq (q : MethodName × Nat) : Prop := (q.1.cls ≠ "java/lang/invoke/MethodHandle" ∧ q.1.cls ≠ "java/lang/invoke/VarHandle") ∧ Cond.instantiable q.1.cls q.2 ∈ tables_1 ∧ Cond.privateMethod q.1 ∈ tables_1 ∧ Cond.instanceMethod q.1 ∈ tables_1
theorem lw_p0 : lw_okq (⟨"QuoitBook$Clay", "liesOn", "(II)Z"⟩, 2) := ⟨⟨by decide +kernel, by decide +kernel⟩, List.mem_of_getElem? (i := 29) (by decide +kernel), List.mem_of_getElem? (i := 364) (by decide +kernel), List.mem_of_getElem? (i := 365) (by decide +kernel)⟩
theorem lw_p1 : lw_okq (⟨"QuoitBook$Iron", "readsSpan", "(I)Z"⟩, 10) := ⟨⟨by decide +kernel, by decide +kernel⟩, List.mem_of_getElem? (i := 36) (by decide +kernel), List.mem_of_getElem? (i := 384) (by decide +kernel), List.mem_of_getElem? (i := 385) (by decide +kernel)⟩
theorem lw_p2 : lw_okq (⟨"QuoitBook", "openMatches", "()I"⟩, 8) := ⟨⟨by decide +kernel, by decide +kernel⟩, List.mem_of_getElem? (i := 21) (by decide +kernel), List.mem_of_getElem? (i := 438) (by decide +kernel), List.mem_of_getElem? (i := 439) (by decide +kernel)⟩
theorem lw_p3 : lw_okq (⟨"QuoitBook", "settleAll", "()V"⟩, 8) := ⟨⟨by decide +kernel, by decide +kernel⟩, List.mem_of_getElem? (i := 21) (by decide +kernel), List.mem_of_getElem? (i := 442) (by decide +kernel), List.mem_of_getElem? (i := 443) (by decide +kernel)⟩
theorem lw_p4 : lw_okq (⟨"QuoitBook", "settle", "(LQuoitBook$Match;)V"⟩, 8) := ⟨⟨by decide +kernel, by decide +kernel⟩, List.mem_of_getElem? (i := 21) (by decide +kernel), List.mem_of_getElem? (i := 446) (by decide +kernel), List.mem_of_getElem? (i := 447) (by decide +kernel)⟩
theorem lw_p5 : lw_okq (⟨"QuoitBook$Match", "addPoints", "(I)V"⟩, 10) := ⟨⟨by decide +kernel, by decide +kernel⟩, List.mem_of_getElem? (i := 456) (by decide +kernel), List.mem_of_getElem? (i := 454) (by decide +kernel), List.mem_of_getElem? (i := 455) (by decide +kernel)⟩
theorem lw_p6 : lw_okq (⟨"QuoitBook$Match", "whoLeads", "(I)I"⟩, 10) := ⟨⟨by decide +kernel, by decide +kernel⟩, List.mem_of_getElem? (i := 456) (by decide +kernel), List.mem_of_getElem? (i := 460) (by decide +kernel), List.mem_of_getElem? (i := 461) (by decide +kernel)⟩
theorem lw_p7 : lw_okq (⟨"QuoitBook$Rule", "readClause", "(LQuoitBook$Text;)V"⟩, 2) := ⟨⟨by decide +kernel, by decide +kernel⟩, List.mem_of_getElem? (i := 128) (by decide +kernel), List.mem_of_getElem? (i := 518) (by decide +kernel), List.mem_of_getElem? (i := 519) (by decide +kernel)⟩
theorem lw_p8 : lw_okq (⟨"QuoitBook$Rule", "readNumber", "(LQuoitBook$Text;I)V"⟩, 2) := ⟨⟨by decide +kernel, by decide +kernel⟩, List.mem_of_getElem? (i := 128) (by decide +kernel), List.mem_of_getElem? (i := 596) (by decide +kernel), List.mem_of_getElem? (i := 597) (by decide +kernel)⟩
theorem lw_p9 : lw_okq (⟨"QuoitBook$Rule", "readChoice", "(LQuoitBook$Text;I)V"⟩, 2) := ⟨⟨by decide +kernel, by decide +kernel⟩, List.mem_of_getElem? (i := 128) (by decide +kernel), List.mem_of_getElem? (i := 613) (by decide +kernel), List.mem_of_getElem? (i := 614) (by decide +kernel)⟩
theorem lw_p10 : lw_okq (⟨"QuoitBook$Tally", "readNearness", "(LQuoitBook$Clay;I)V"⟩, 6) := ⟨⟨by decide +kernel, by decide +kernel⟩, List.mem_of_getElem? (i := 148) (by decide +kernel), List.mem_of_getElem? (i := 683) (by decide +kernel), List.mem_of_getElem? (i := 684) (by decide +kernel)⟩
theorem lw_p11 : lw_okq (⟨"QuoitBook$Tally", "aheadOf", "(III)I"⟩, 6) := ⟨⟨by decide +kernel, by decide +kernel⟩, List.mem_of_getElem? (i := 148) (by decide +kernel), List.mem_of_getElem? (i := 692) (by decide +kernel), List.mem_of_getElem? (i := 693) (by decide +kernel)⟩
theorem lw_p12 : lw_okq (⟨"QuoitBook$Tally", "isAhead", "(III)Z"⟩, 6) := ⟨⟨by decide +kernel, by decide +kernel⟩, List.mem_of_getElem? (i := 148) (by decide +kernel), List.mem_of_getElem? (i := 696) (by decide +kernel), List.mem_of_getElem? (i := 697) (by decide +kernel)⟩
theorem lw_p13 : lw_okq (⟨"QuoitBook$LastEnd", "chooseAct", "(II)V"⟩, 5) := ⟨⟨by decide +kernel, by decide +kernel⟩, List.mem_of_getElem? (i := 178) (by decide +kernel), List.mem_of_getElem? (i := 752) (by decide +kernel), List.mem_of_getElem? (i := 753) (by decide +kernel)⟩
theorem lw_p14 : lw_okq (⟨"QuoitBook$LastEnd", "chanceBy", "(III)J"⟩, 5) := ⟨⟨by decide +kernel, by decide +kernel⟩, List.mem_of_getElem? (i := 178) (by decide +kernel), List.mem_of_getElem? (i := 756) (by decide +kernel), List.mem_of_getElem? (i := 757) (by decide +kernel)⟩
theorem lw_p15 : lw_okq (⟨"QuoitBook$Book", "addTo", "(ILQuoitBook$Match;II)V"⟩, 10) := ⟨⟨by decide +kernel, by decide +kernel⟩, List.mem_of_getElem? (i := 205) (by decide +kernel), List.mem_of_getElem? (i := 871) (by decide +kernel), List.mem_of_getElem? (i := 872) (by decide +kernel)⟩
def lw_privs_1 : List (MethodName × Nat) := [(⟨"QuoitBook$Clay", "liesOn", "(II)Z"⟩, 2), (⟨"QuoitBook$Iron", "readsSpan", "(I)Z"⟩, 10), (⟨"QuoitBook", "openMatches", "()I"⟩, 8), (⟨"QuoitBook", "settleAll", "()V"⟩, 8), (⟨"QuoitBook", "settle", "(LQuoitBook$Match;)V"⟩, 8), (⟨"QuoitBook$Match", "addPoints", "(I)V"⟩, 10), (⟨"QuoitBook$Match", "whoLeads", "(I)I"⟩, 10), (⟨"QuoitBook$Rule", "readClause", "(LQuoitBook$Text;)V"⟩, 2), (⟨"QuoitBook$Rule", "readNumber", "(LQuoitBook$Text;I)V"⟩, 2), (⟨"QuoitBook$Rule", "readChoice", "(LQuoitBook$Text;I)V"⟩, 2), (⟨"QuoitBook$Tally", "readNearness", "(LQuoitBook$Clay;I)V"⟩, 6), (⟨"QuoitBook$Tally", "aheadOf", "(III)I"⟩, 6), (⟨"QuoitBook$Tally", "isAhead", "(III)Z"⟩, 6), (⟨"QuoitBook$LastEnd", "chooseAct", "(II)V"⟩, 5), (⟨"QuoitBook$LastEnd", "chanceBy", "(III)J"⟩, 5), (⟨"QuoitBook$Book", "addTo", "(ILQuoitBook$Match;II)V"⟩, 10)]
theorem lw_r1 : ∀ q ∈ lw_privs_1, lw_okq q := List.forall_mem_cons.mpr ⟨lw_p0, List.forall_mem_cons.mpr ⟨lw_p1, List.forall_mem_cons.mpr ⟨lw_p2, List.forall_mem_cons.mpr ⟨lw_p3, List.forall_mem_cons.mpr ⟨lw_p4, List.forall_mem_cons.mpr ⟨lw_p5, List.forall_mem_cons.mpr ⟨lw_p6, List.forall_mem_cons.mpr ⟨lw_p7, List.forall_mem_cons.mpr ⟨lw_p8, List.forall_mem_cons.mpr ⟨lw_p9, List.forall_mem_cons.mpr ⟨lw_p10, List.forall_mem_cons.mpr ⟨lw_p11, List.forall_mem_cons.mpr ⟨lw_p12, List.forall_mem_cons.mpr ⟨lw_p13, List.forall_mem_cons.mpr ⟨lw_p14, List.forall_mem_cons.mpr ⟨lw_p15, fun _ h => absurd h List.not_mem_nil⟩⟩⟩⟩⟩⟩⟩⟩⟩⟩⟩⟩⟩⟩⟩⟩
theorem lw_p16 : lw_okq (⟨"QuoitBook$Book", "keyOf", "(II)I"⟩, 10) := ⟨⟨by decide +kernel, by decide +kernel⟩, List.mem_of_getElem? (i := 205) (by decide +kernel), List.mem_of_getElem? (i := 887) (by decide +kernel), List.mem_of_getElem? (i := 888) (by decide +kernel)⟩
theorem lw_p17 : lw_okq (⟨"QuoitBook$Book", "tableAmongLikes", "(II)I"⟩, 10) := ⟨⟨by decide +kernel, by decide +kernel⟩, List.mem_of_getElem? (i := 205) (by decide +kernel), List.mem_of_getElem? (i := 892) (by decide +kernel), List.mem_of_getElem? (i := 893) (by decide +kernel)⟩
theorem lw_p18 : lw_okq (⟨"QuoitBook$Book", "areAlike", "(III)Z"⟩, 10) := ⟨⟨by decide +kernel, by decide +kernel⟩, List.mem_of_getElem? (i := 205) (by decide +kernel), List.mem_of_getElem? (i := 900) (by decide +kernel), List.mem_of_getElem? (i := 901) (by decide +kernel)⟩
theorem lw_p19 : lw_okq (⟨"QuoitBook$Book", "isAhead", "(II)Z"⟩, 10) := ⟨⟨by decide +kernel, by decide +kernel⟩, List.mem_of_getElem? (i := 205) (by decide +kernel), List.mem_of_getElem? (i := 904) (by decide +kernel), List.mem_of_getElem? (i := 905) (by decide +kernel)⟩
theorem lw_p20 : lw_okq (⟨"QuoitBook$Order", "readWord", "(LQuoitBook$Text;)V"⟩, 3) := ⟨⟨by decide +kernel, by decide +kernel⟩, List.mem_of_getElem? (i := 213) (by decide +kernel), List.mem_of_getElem? (i := 919) (by decide +kernel), List.mem_of_getElem? (i := 920) (by decide +kernel)⟩
theorem lw_p21 : lw_okq (⟨"QuoitBook$Book", "tryFrom", "(II)V"⟩, 10) := ⟨⟨by decide +kernel, by decide +kernel⟩, List.mem_of_getElem? (i := 205) (by decide +kernel), List.mem_of_getElem? (i := 950) (by decide +kernel), List.mem_of_getElem? (i := 951) (by decide +kernel)⟩
theorem lw_p22 : lw_okq (⟨"QuoitBook$Book", "notePlace", "(I)V"⟩, 10) := ⟨⟨by decide +kernel, by decide +kernel⟩, List.mem_of_getElem? (i := 205) (by decide +kernel), List.mem_of_getElem? (i := 954) (by decide +kernel), List.mem_of_getElem? (i := 955) (by decide +kernel)⟩
theorem lw_p23 : lw_okq (⟨"QuoitBookModel", "layAct", "(IIIIIII)V"⟩, 46) := ⟨⟨by decide +kernel, by decide +kernel⟩, List.mem_of_getElem? (i := 960) (by decide +kernel), List.mem_of_getElem? (i := 969) (by decide +kernel), List.mem_of_getElem? (i := 970) (by decide +kernel)⟩
theorem lw_p24 : lw_okq (⟨"QuoitBookModel", "forget", "(I)V"⟩, 46) := ⟨⟨by decide +kernel, by decide +kernel⟩, List.mem_of_getElem? (i := 960) (by decide +kernel), List.mem_of_getElem? (i := 1132) (by decide +kernel), List.mem_of_getElem? (i := 1133) (by decide +kernel)⟩
theorem lw_p25 : lw_okq (⟨"QuoitBookModel", "noIron", "(I)Z"⟩, 46) := ⟨⟨by decide +kernel, by decide +kernel⟩, List.mem_of_getElem? (i := 960) (by decide +kernel), List.mem_of_getElem? (i := 1140) (by decide +kernel), List.mem_of_getElem? (i := 1141) (by decide +kernel)⟩
theorem lw_p26 : lw_okq (⟨"QuoitBookModel", "liesOn", "(II)Z"⟩, 46) := ⟨⟨by decide +kernel, by decide +kernel⟩, List.mem_of_getElem? (i := 960) (by decide +kernel), List.mem_of_getElem? (i := 1152) (by decide +kernel), List.mem_of_getElem? (i := 1153) (by decide +kernel)⟩
theorem lw_p27 : lw_okq (⟨"QuoitBookModel", "square", "(I)I"⟩, 46) := ⟨⟨by decide +kernel, by decide +kernel⟩, List.mem_of_getElem? (i := 960) (by decide +kernel), List.mem_of_getElem? (i := 1159) (by decide +kernel), List.mem_of_getElem? (i := 1160) (by decide +kernel)⟩
theorem lw_p28 : lw_okq (⟨"QuoitBookModel", "isRinger", "(I)Z"⟩, 46) := ⟨⟨by decide +kernel, by decide +kernel⟩, List.mem_of_getElem? (i := 960) (by decide +kernel), List.mem_of_getElem? (i := 1163) (by decide +kernel), List.mem_of_getElem? (i := 1164) (by decide +kernel)⟩
theorem lw_p29 : lw_okq (⟨"QuoitBookModel", "nearness", "(I)I"⟩, 46) := ⟨⟨by decide +kernel, by decide +kernel⟩, List.mem_of_getElem? (i := 960) (by decide +kernel), List.mem_of_getElem? (i := 1167) (by decide +kernel), List.mem_of_getElem? (i := 1168) (by decide +kernel)⟩
theorem lw_p30 : lw_okq (⟨"QuoitBookModel", "hasRoot", "(I)Z"⟩, 46) := ⟨⟨by decide +kernel, by decide +kernel⟩, List.mem_of_getElem? (i := 960) (by decide +kernel), List.mem_of_getElem? (i := 1171) (by decide +kernel), List.mem_of_getElem? (i := 1172) (by decide +kernel)⟩
theorem lw_p31 : lw_okq (⟨"QuoitBookModel", "rootPart", "(I)J"⟩, 46) := ⟨⟨by decide +kernel, by decide +kernel⟩, List.mem_of_getElem? (i := 960) (by decide +kernel), List.mem_of_getElem? (i := 1184) (by decide +kernel), List.mem_of_getElem? (i := 1185) (by decide +kernel)⟩
def lw_privs_2 : List (MethodName × Nat) := [(⟨"QuoitBook$Book", "keyOf", "(II)I"⟩, 10), (⟨"QuoitBook$Book", "tableAmongLikes", "(II)I"⟩, 10), (⟨"QuoitBook$Book", "areAlike", "(III)Z"⟩, 10), (⟨"QuoitBook$Book", "isAhead", "(II)Z"⟩, 10), (⟨"QuoitBook$Order", "readWord", "(LQuoitBook$Text;)V"⟩, 3), (⟨"QuoitBook$Book", "tryFrom", "(II)V"⟩, 10), (⟨"QuoitBook$Book", "notePlace", "(I)V"⟩, 10), (⟨"QuoitBookModel", "layAct", "(IIIIIII)V"⟩, 46), (⟨"QuoitBookModel", "forget", "(I)V"⟩, 46), (⟨"QuoitBookModel", "noIron", "(I)Z"⟩, 46), (⟨"QuoitBookModel", "liesOn", "(II)Z"⟩, 46), (⟨"QuoitBookModel", "square", "(I)I"⟩, 46), (⟨"QuoitBookModel", "isRinger", "(I)Z"⟩, 46), (⟨"QuoitBookModel", "nearness", "(I)I"⟩, 46), (⟨"QuoitBookModel", "hasRoot", "(I)Z"⟩, 46), (⟨"QuoitBookModel", "rootPart", "(I)J"⟩, 46)]
theorem lw_r2 : ∀ q ∈ lw_privs_2, lw_okq q := List.forall_mem_cons.mpr ⟨lw_p16, List.forall_mem_cons.mpr ⟨lw_p17, List.forall_mem_cons.mpr ⟨lw_p18, List.forall_mem_cons.mpr ⟨lw_p19, List.forall_mem_cons.mpr ⟨lw_p20, List.forall_mem_cons.mpr ⟨lw_p21, List.forall_mem_cons.mpr ⟨lw_p22, List.forall_mem_cons.mpr ⟨lw_p23, List.forall_mem_cons.mpr ⟨lw_p24, List.forall_mem_cons.mpr ⟨lw_p25, List.forall_mem_cons.mpr ⟨lw_p26, List.forall_mem_cons.mpr ⟨lw_p27, List.forall_mem_cons.mpr ⟨lw_p28, List.forall_mem_cons.mpr ⟨lw_p29, List.forall_mem_cons.mpr ⟨lw_p30, List.forall_mem_cons.mpr ⟨lw_p31, fun _ h => absurd h List.not_mem_nil⟩⟩⟩⟩⟩⟩⟩⟩⟩⟩⟩⟩⟩⟩⟩⟩
theorem lw_p32 : lw_okq (⟨"QuoitBookModel", "wholePart", "(I)J"⟩, 46) := ⟨⟨by decide +kernel, by decide +kernel⟩, List.mem_of_getElem? (i := 960) (by decide +kernel), List.mem_of_getElem? (i := 1188) (by decide +kernel), List.mem_of_getElem? (i := 1189) (by decide +kernel)⟩
theorem lw_p33 : lw_okq (⟨"QuoitBookModel", "hasSpan", "(I)Z"⟩, 46) := ⟨⟨by decide +kernel, by decide +kernel⟩, List.mem_of_getElem? (i := 960) (by decide +kernel), List.mem_of_getElem? (i := 1203) (by decide +kernel), List.mem_of_getElem? (i := 1204) (by decide +kernel)⟩
theorem lw_p34 : lw_okq (⟨"QuoitBookModel", "isDisputed", "(I)Z"⟩, 46) := ⟨⟨by decide +kernel, by decide +kernel⟩, List.mem_of_getElem? (i := 960) (by decide +kernel), List.mem_of_getElem? (i := 1207) (by decide +kernel), List.mem_of_getElem? (i := 1208) (by decide +kernel)⟩
theorem lw_p35 : lw_okq (⟨"QuoitBookModel", "spanOf", "(IZ)I"⟩, 46) := ⟨⟨by decide +kernel, by decide +kernel⟩, List.mem_of_getElem? (i := 960) (by decide +kernel), List.mem_of_getElem? (i := 1211) (by decide +kernel), List.mem_of_getElem? (i := 1212) (by decide +kernel)⟩
theorem lw_p36 : lw_okq (⟨"QuoitBookModel", "ringersOf", "(I)I"⟩, 46) := ⟨⟨by decide +kernel, by decide +kernel⟩, List.mem_of_getElem? (i := 960) (by decide +kernel), List.mem_of_getElem? (i := 1215) (by decide +kernel), List.mem_of_getElem? (i := 1216) (by decide +kernel)⟩
theorem lw_p37 : lw_okq (⟨"QuoitBookModel", "openOnes", "()I"⟩, 46) := ⟨⟨by decide +kernel, by decide +kernel⟩, List.mem_of_getElem? (i := 960) (by decide +kernel), List.mem_of_getElem? (i := 1219) (by decide +kernel), List.mem_of_getElem? (i := 1220) (by decide +kernel)⟩
theorem lw_p38 : lw_okq (⟨"QuoitBookModel", "stateOf", "(I)I"⟩, 46) := ⟨⟨by decide +kernel, by decide +kernel⟩, List.mem_of_getElem? (i := 960) (by decide +kernel), List.mem_of_getElem? (i := 1223) (by decide +kernel), List.mem_of_getElem? (i := 1224) (by decide +kernel)⟩
theorem lw_p39 : lw_okq (⟨"QuoitBookModel", "gameOf", "(II)I"⟩, 46) := ⟨⟨by decide +kernel, by decide +kernel⟩, List.mem_of_getElem? (i := 960) (by decide +kernel), List.mem_of_getElem? (i := 1227) (by decide +kernel), List.mem_of_getElem? (i := 1228) (by decide +kernel)⟩
theorem lw_p40 : lw_okq (⟨"QuoitBookModel", "here", "(I)I"⟩, 46) := ⟨⟨by decide +kernel, by decide +kernel⟩, List.mem_of_getElem? (i := 960) (by decide +kernel), List.mem_of_getElem? (i := 1245) (by decide +kernel), List.mem_of_getElem? (i := 1246) (by decide +kernel)⟩
theorem lw_p41 : lw_okq (⟨"QuoitBookModel", "readClause", "()V"⟩, 46) := ⟨⟨by decide +kernel, by decide +kernel⟩, List.mem_of_getElem? (i := 960) (by decide +kernel), List.mem_of_getElem? (i := 1249) (by decide +kernel), List.mem_of_getElem? (i := 1250) (by decide +kernel)⟩
theorem lw_p42 : lw_okq (⟨"QuoitBookModel", "takeWord", "(I)V"⟩, 46) := ⟨⟨by decide +kernel, by decide +kernel⟩, List.mem_of_getElem? (i := 960) (by decide +kernel), List.mem_of_getElem? (i := 1253) (by decide +kernel), List.mem_of_getElem? (i := 1254) (by decide +kernel)⟩
theorem lw_p43 : lw_okq (⟨"QuoitBookModel", "clauseOf", "()I"⟩, 46) := ⟨⟨by decide +kernel, by decide +kernel⟩, List.mem_of_getElem? (i := 960) (by decide +kernel), List.mem_of_getElem? (i := 1259) (by decide +kernel), List.mem_of_getElem? (i := 1260) (by decide +kernel)⟩
theorem lw_p44 : lw_okq (⟨"QuoitBookModel", "isWord", "(JI)Z"⟩, 46) := ⟨⟨by decide +kernel, by decide +kernel⟩, List.mem_of_getElem? (i := 960) (by decide +kernel), List.mem_of_getElem? (i := 1269) (by decide +kernel), List.mem_of_getElem? (i := 1270) (by decide +kernel)⟩
theorem lw_p45 : lw_okq (⟨"QuoitBookModel", "want", "(ZII)Z"⟩, 46) := ⟨⟨by decide +kernel, by decide +kernel⟩, List.mem_of_getElem? (i := 960) (by decide +kernel), List.mem_of_getElem? (i := 1275) (by decide +kernel), List.mem_of_getElem? (i := 1276) (by decide +kernel)⟩
theorem lw_p46 : lw_okq (⟨"QuoitBookModel", "readValue", "(I)V"⟩, 46) := ⟨⟨by decide +kernel, by decide +kernel⟩, List.mem_of_getElem? (i := 960) (by decide +kernel), List.mem_of_getElem? (i := 1279) (by decide +kernel), List.mem_of_getElem? (i := 1280) (by decide +kernel)⟩
theorem lw_p47 : lw_okq (⟨"QuoitBookModel", "valueOf", "(I)I"⟩, 46) := ⟨⟨by decide +kernel, by decide +kernel⟩, List.mem_of_getElem? (i := 960) (by decide +kernel), List.mem_of_getElem? (i := 1291) (by decide +kernel), List.mem_of_getElem? (i := 1292) (by decide +kernel)⟩
def lw_privs_3 : List (MethodName × Nat) := [(⟨"QuoitBookModel", "wholePart", "(I)J"⟩, 46), (⟨"QuoitBookModel", "hasSpan", "(I)Z"⟩, 46), (⟨"QuoitBookModel", "isDisputed", "(I)Z"⟩, 46), (⟨"QuoitBookModel", "spanOf", "(IZ)I"⟩, 46), (⟨"QuoitBookModel", "ringersOf", "(I)I"⟩, 46), (⟨"QuoitBookModel", "openOnes", "()I"⟩, 46), (⟨"QuoitBookModel", "stateOf", "(I)I"⟩, 46), (⟨"QuoitBookModel", "gameOf", "(II)I"⟩, 46), (⟨"QuoitBookModel", "here", "(I)I"⟩, 46), (⟨"QuoitBookModel", "readClause", "()V"⟩, 46), (⟨"QuoitBookModel", "takeWord", "(I)V"⟩, 46), (⟨"QuoitBookModel", "clauseOf", "()I"⟩, 46), (⟨"QuoitBookModel", "isWord", "(JI)Z"⟩, 46), (⟨"QuoitBookModel", "want", "(ZII)Z"⟩, 46), (⟨"QuoitBookModel", "readValue", "(I)V"⟩, 46), (⟨"QuoitBookModel", "valueOf", "(I)I"⟩, 46)]
theorem lw_r3 : ∀ q ∈ lw_privs_3, lw_okq q := List.forall_mem_cons.mpr ⟨lw_p32, List.forall_mem_cons.mpr ⟨lw_p33, List.forall_mem_cons.mpr ⟨lw_p34, List.forall_mem_cons.mpr ⟨lw_p35, List.forall_mem_cons.mpr ⟨lw_p36, List.forall_mem_cons.mpr ⟨lw_p37, List.forall_mem_cons.mpr ⟨lw_p38, List.forall_mem_cons.mpr ⟨lw_p39, List.forall_mem_cons.mpr ⟨lw_p40, List.forall_mem_cons.mpr ⟨lw_p41, List.forall_mem_cons.mpr ⟨lw_p42, List.forall_mem_cons.mpr ⟨lw_p43, List.forall_mem_cons.mpr ⟨lw_p44, List.forall_mem_cons.mpr ⟨lw_p45, List.forall_mem_cons.mpr ⟨lw_p46, List.forall_mem_cons.mpr ⟨lw_p47, fun _ h => absurd h List.not_mem_nil⟩⟩⟩⟩⟩⟩⟩⟩⟩⟩⟩⟩⟩⟩⟩⟩
theorem lw_p48 : lw_okq (⟨"QuoitBookModel", "layNearness", "(I)V"⟩, 46) := ⟨⟨by decide +kernel, by decide +kernel⟩, List.mem_of_getElem? (i := 960) (by decide +kernel), List.mem_of_getElem? (i := 1308) (by decide +kernel), List.mem_of_getElem? (i := 1309) (by decide +kernel)⟩
theorem lw_p49 : lw_okq (⟨"QuoitBookModel", "findScore", "(I)V"⟩, 46) := ⟨⟨by decide +kernel, by decide +kernel⟩, List.mem_of_getElem? (i := 960) (by decide +kernel), List.mem_of_getElem? (i := 1314) (by decide +kernel), List.mem_of_getElem? (i := 1315) (by decide +kernel)⟩
theorem lw_p50 : lw_okq (⟨"QuoitBookModel", "counts", "(II)Z"⟩, 46) := ⟨⟨by decide +kernel, by decide +kernel⟩, List.mem_of_getElem? (i := 960) (by decide +kernel), List.mem_of_getElem? (i := 1318) (by decide +kernel), List.mem_of_getElem? (i := 1319) (by decide +kernel)⟩
theorem lw_p51 : lw_okq (⟨"QuoitBookModel", "findRingers", "(III)V"⟩, 46) := ⟨⟨by decide +kernel, by decide +kernel⟩, List.mem_of_getElem? (i := 960) (by decide +kernel), List.mem_of_getElem? (i := 1322) (by decide +kernel), List.mem_of_getElem? (i := 1323) (by decide +kernel)⟩
theorem lw_p52 : lw_okq (⟨"QuoitBookModel", "isAhead", "(III)Z"⟩, 46) := ⟨⟨by decide +kernel, by decide +kernel⟩, List.mem_of_getElem? (i := 960) (by decide +kernel), List.mem_of_getElem? (i := 1332) (by decide +kernel), List.mem_of_getElem? (i := 1333) (by decide +kernel)⟩
theorem lw_p53 : lw_okq (⟨"QuoitBookModel", "scoreFor", "(II)I"⟩, 46) := ⟨⟨by decide +kernel, by decide +kernel⟩, List.mem_of_getElem? (i := 960) (by decide +kernel), List.mem_of_getElem? (i := 1351) (by decide +kernel), List.mem_of_getElem? (i := 1352) (by decide +kernel)⟩
theorem lw_p54 : lw_okq (⟨"QuoitBookModel", "bestWorth", "(II)J"⟩, 46) := ⟨⟨by decide +kernel, by decide +kernel⟩, List.mem_of_getElem? (i := 960) (by decide +kernel), List.mem_of_getElem? (i := 1369) (by decide +kernel), List.mem_of_getElem? (i := 1370) (by decide +kernel)⟩
theorem lw_p55 : lw_okq (⟨"QuoitBookModel", "worth", "(III)J"⟩, 46) := ⟨⟨by decide +kernel, by decide +kernel⟩, List.mem_of_getElem? (i := 960) (by decide +kernel), List.mem_of_getElem? (i := 1373) (by decide +kernel), List.mem_of_getElem? (i := 1374) (by decide +kernel)⟩
theorem lw_p56 : lw_okq (⟨"QuoitBookModel", "noMatch", "(I)Z"⟩, 46) := ⟨⟨by decide +kernel, by decide +kernel⟩, List.mem_of_getElem? (i := 960) (by decide +kernel), List.mem_of_getElem? (i := 1388) (by decide +kernel), List.mem_of_getElem? (i := 1389) (by decide +kernel)⟩
theorem lw_p57 : lw_okq (⟨"QuoitBookModel", "sumOf", "(III)I"⟩, 46) := ⟨⟨by decide +kernel, by decide +kernel⟩, List.mem_of_getElem? (i := 960) (by decide +kernel), List.mem_of_getElem? (i := 1410) (by decide +kernel), List.mem_of_getElem? (i := 1411) (by decide +kernel)⟩
theorem lw_p58 : lw_okq (⟨"QuoitBookModel", "tableOf", "(II)I"⟩, 46) := ⟨⟨by decide +kernel, by decide +kernel⟩, List.mem_of_getElem? (i := 960) (by decide +kernel), List.mem_of_getElem? (i := 1414) (by decide +kernel), List.mem_of_getElem? (i := 1415) (by decide +kernel)⟩
theorem lw_p59 : lw_okq (⟨"QuoitBookModel", "aheadOf", "(I)I"⟩, 46) := ⟨⟨by decide +kernel, by decide +kernel⟩, List.mem_of_getElem? (i := 960) (by decide +kernel), List.mem_of_getElem? (i := 1418) (by decide +kernel), List.mem_of_getElem? (i := 1419) (by decide +kernel)⟩
theorem lw_p60 : lw_okq (⟨"QuoitBookModel", "valueOf", "(III)I"⟩, 46) := ⟨⟨by decide +kernel, by decide +kernel⟩, List.mem_of_getElem? (i := 960) (by decide +kernel), List.mem_of_getElem? (i := 1422) (by decide +kernel), List.mem_of_getElem? (i := 1423) (by decide +kernel)⟩
theorem lw_p61 : lw_okq (⟨"QuoitBookModel", "orderWord", "()I"⟩, 46) := ⟨⟨by decide +kernel, by decide +kernel⟩, List.mem_of_getElem? (i := 960) (by decide +kernel), List.mem_of_getElem? (i := 1430) (by decide +kernel), List.mem_of_getElem? (i := 1431) (by decide +kernel)⟩
def lw_privs_4 : List (MethodName × Nat) := [(⟨"QuoitBookModel", "layNearness", "(I)V"⟩, 46), (⟨"QuoitBookModel", "findScore", "(I)V"⟩, 46), (⟨"QuoitBookModel", "counts", "(II)Z"⟩, 46), (⟨"QuoitBookModel", "findRingers", "(III)V"⟩, 46), (⟨"QuoitBookModel", "isAhead", "(III)Z"⟩, 46), (⟨"QuoitBookModel", "scoreFor", "(II)I"⟩, 46), (⟨"QuoitBookModel", "bestWorth", "(II)J"⟩, 46), (⟨"QuoitBookModel", "worth", "(III)J"⟩, 46), (⟨"QuoitBookModel", "noMatch", "(I)Z"⟩, 46), (⟨"QuoitBookModel", "sumOf", "(III)I"⟩, 46), (⟨"QuoitBookModel", "tableOf", "(II)I"⟩, 46), (⟨"QuoitBookModel", "aheadOf", "(I)I"⟩, 46), (⟨"QuoitBookModel", "valueOf", "(III)I"⟩, 46), (⟨"QuoitBookModel", "orderWord", "()I"⟩, 46)]
theorem lw_r4 : ∀ q ∈ lw_privs_4, lw_okq q := List.forall_mem_cons.mpr ⟨lw_p48, List.forall_mem_cons.mpr ⟨lw_p49, List.forall_mem_cons.mpr ⟨lw_p50, List.forall_mem_cons.mpr ⟨lw_p51, List.forall_mem_cons.mpr ⟨lw_p52, List.forall_mem_cons.mpr ⟨lw_p53, List.forall_mem_cons.mpr ⟨lw_p54, List.forall_mem_cons.mpr ⟨lw_p55, List.forall_mem_cons.mpr ⟨lw_p56, List.forall_mem_cons.mpr ⟨lw_p57, List.forall_mem_cons.mpr ⟨lw_p58, List.forall_mem_cons.mpr ⟨lw_p59, List.forall_mem_cons.mpr ⟨lw_p60, List.forall_mem_cons.mpr ⟨lw_p61, fun _ h => absurd h List.not_mem_nil⟩⟩⟩⟩⟩⟩⟩⟩⟩⟩⟩⟩⟩⟩
def lw_privs : List (MethodName × Nat) := lw_privs_1 ++ (lw_privs_2 ++ (lw_privs_3 ++ (lw_privs_4)))
def lw_tbl : List Cond := k2_sels lw_privs ++ tables_1
theorem lw_privs_ok : ∀ q ∈ lw_privs, lw_okq q := by
  show ∀ q ∈ lw_privs_1 ++ (lw_privs_2 ++ (lw_privs_3 ++ (lw_privs_4))), lw_okq q
  exact List.forall_mem_append.mpr ⟨lw_r1, List.forall_mem_append.mpr ⟨lw_r2, List.forall_mem_append.mpr ⟨lw_r3, lw_r4⟩⟩⟩
end
section
def RX0 : String := "QuoitBook$Book"
def TX0 : u_T := fun k => match k with
  | 0 => ("QuoitBook$Book", "matches", "[LQuoitBook$Match;", true)
  | 1 => ("QuoitBook$Book", "made", "I", false)
  | 2 => ("QuoitBook$Book", "order", "LQuoitBook$Order;", true)
  | 3 => ("QuoitBook$Book", "sums", "[[I", true)
  | 4 => ("QuoitBook$Book", "leastPlace", "I", false)
  | 5 => ("QuoitBook$Book", "greatestPlace", "I", false)
  | 6 => ("QuoitBook$Book", "keys", "[[I", true)
  | 7 => ("QuoitBook$Book", "tables", "[I", true)
  | 8 => ("QuoitBook$Book", "openOnes", "[I", true)
  | _ => ("QuoitBook$Book", "open", "I", false)
def tyX0 : Nat → FieldType := fun k => match k with
  | 0 => .array (.object "QuoitBook$Match")
  | 1 => .int
  | 2 => .object "QuoitBook$Order"
  | 3 => .array (.array .int)
  | 4 => .int
  | 5 => .int
  | 6 => .array (.array .int)
  | 7 => .array .int
  | 8 => .array .int
  | _ => .int
abbrev wsX00 : List Cond := u_ws RX0 TX0 10
theorem nmX0 : ∀ a, a < 10 → ∀ b, b < 10 → a ≠ b → (TX0 a).2.1 ≠ (TX0 b).2.1 := by decide +kernel
theorem tyX0_ok : ∀ k, k < 10 → parseFieldDescriptor (TX0 k).2.2.1 = some (tyX0 k) := by decide +kernel
abbrev cX0_init : ByteArray := prog_2_method_1_code
def yX0_init : MethodName := ⟨RX0, "<init>", "()V"⟩
abbrev cX0_find : ByteArray := prog_2_method_2_code
def yX0_find : MethodName := ⟨RX0, "find", "(I)LQuoitBook$Match;"⟩
abbrev cX0_add : ByteArray := prog_2_method_3_code
def yX0_add : MethodName := ⟨RX0, "add", "(LQuoitBook$Match;)I"⟩
abbrev cX0_countOpen : ByteArray := prog_2_method_4_code
def yX0_countOpen : MethodName := ⟨RX0, "countOpen", "()I"⟩
abbrev cX0_sumUp : ByteArray := prog_2_method_5_code
def yX0_sumUp : MethodName := ⟨RX0, "sumUp", "()V"⟩
abbrev cX0_addTo : ByteArray := prog_2_method_6_code
def yX0_addTo : MethodName := ⟨RX0, "addTo", "(ILQuoitBook$Match;II)V"⟩
abbrev cX0_table : ByteArray := prog_2_method_7_code
def yX0_table : MethodName := ⟨RX0, "table", "(I)I"⟩
abbrev cX0_place : ByteArray := prog_2_method_8_code
def yX0_place : MethodName := ⟨RX0, "place", "(I)I"⟩
abbrev cX0_keyOf : ByteArray := prog_2_method_9_code
def yX0_keyOf : MethodName := ⟨RX0, "keyOf", "(II)I"⟩
abbrev cX0_tableAmongLikes : ByteArray := prog_2_method_10_code
def yX0_tableAmongLikes : MethodName := ⟨RX0, "tableAmongLikes", "(II)I"⟩
abbrev cX0_areAlike : ByteArray := prog_2_method_11_code
def yX0_areAlike : MethodName := ⟨RX0, "areAlike", "(III)Z"⟩
abbrev cX0_isAhead : ByteArray := prog_2_method_12_code
def yX0_isAhead : MethodName := ⟨RX0, "isAhead", "(II)Z"⟩
abbrev cX0_tryAllWays : ByteArray := prog_2_method_13_code
def yX0_tryAllWays : MethodName := ⟨RX0, "tryAllWays", "(I)V"⟩
abbrev cX0_tryFrom : ByteArray := prog_2_method_14_code
def yX0_tryFrom : MethodName := ⟨RX0, "tryFrom", "(II)V"⟩
abbrev cX0_notePlace : ByteArray := prog_2_method_15_code
def yX0_notePlace : MethodName := ⟨RX0, "notePlace", "(I)V"⟩
def RX1 : String := "QuoitBook$Clay"
def TX1 : u_T := fun k => match k with
  | 0 => ("QuoitBook$Clay", "irons", "[LQuoitBook$Iron;", true)
  | _ => ("QuoitBook$Clay", "laid", "I", false)
def tyX1 : Nat → FieldType := fun k => match k with
  | 0 => .array (.object "QuoitBook$Iron")
  | _ => .int
abbrev wsX10 : List Cond := u_ws RX1 TX1 2
theorem nmX1 : ∀ a, a < 2 → ∀ b, b < 2 → a ≠ b → (TX1 a).2.1 ≠ (TX1 b).2.1 := by decide +kernel
theorem tyX1_ok : ∀ k, k < 2 → parseFieldDescriptor (TX1 k).2.2.1 = some (tyX1 k) := by decide +kernel
abbrev cX1_init : ByteArray := prog_3_method_1_code
def yX1_init : MethodName := ⟨RX1, "<init>", "()V"⟩
abbrev cX1_find : ByteArray := prog_3_method_2_code
def yX1_find : MethodName := ⟨RX1, "find", "(I)LQuoitBook$Iron;"⟩
abbrev cX1_liesOn : ByteArray := prog_3_method_3_code
def yX1_liesOn : MethodName := ⟨RX1, "liesOn", "(II)Z"⟩
abbrev cX1_lyingOn : ByteArray := prog_3_method_4_code
def yX1_lyingOn : MethodName := ⟨RX1, "lyingOn", "(I)I"⟩
abbrev cX1_lyingUnder : ByteArray := prog_3_method_5_code
def yX1_lyingUnder : MethodName := ⟨RX1, "lyingUnder", "(I)I"⟩
abbrev cX1_ofSide : ByteArray := prog_3_method_6_code
def yX1_ofSide : MethodName := ⟨RX1, "ofSide", "(I)I"⟩
abbrev cX1_ringers : ByteArray := prog_3_method_7_code
def yX1_ringers : MethodName := ⟨RX1, "ringers", "()I"⟩
abbrev cX1_countOff : ByteArray := prog_3_method_8_code
def yX1_countOff : MethodName := ⟨RX1, "countOff", "()I"⟩
abbrev cX1_countRingers : ByteArray := prog_3_method_9_code
def yX1_countRingers : MethodName := ⟨RX1, "countRingers", "(I)I"⟩
abbrev cX1_countMeasured : ByteArray := prog_3_method_10_code
def yX1_countMeasured : MethodName := ⟨RX1, "countMeasured", "()I"⟩
abbrev cX1_countDisputed : ByteArray := prog_3_method_11_code
def yX1_countDisputed : MethodName := ⟨RX1, "countDisputed", "()I"⟩
def RX2 : String := "QuoitBook$Iron"
def TX2 : u_T := fun k => match k with
  | 0 => ("QuoitBook$Iron", "side", "I", false)
  | 1 => ("QuoitBook$Iron", "x", "I", false)
  | 2 => ("QuoitBook$Iron", "y", "I", false)
  | 3 => ("QuoitBook$Iron", "size", "I", false)
  | 4 => ("QuoitBook$Iron", "hole", "I", false)
  | 5 => ("QuoitBook$Iron", "lift", "I", false)
  | 6 => ("QuoitBook$Iron", "up", "Z", false)
  | 7 => ("QuoitBook$Iron", "off", "Z", false)
  | 8 => ("QuoitBook$Iron", "low", "[I", true)
  | _ => ("QuoitBook$Iron", "high", "[I", true)
def tyX2 : Nat → FieldType := fun k => match k with
  | 0 => .int
  | 1 => .int
  | 2 => .int
  | 3 => .int
  | 4 => .int
  | 5 => .int
  | 6 => .boolean
  | 7 => .boolean
  | 8 => .array .int
  | _ => .array .int
abbrev wsX20 : List Cond := u_ws RX2 TX2 10
theorem nmX2 : ∀ a, a < 10 → ∀ b, b < 10 → a ≠ b → (TX2 a).2.1 ≠ (TX2 b).2.1 := by decide +kernel
theorem tyX2_ok : ∀ k, k < 10 → parseFieldDescriptor (TX2 k).2.2.1 = some (tyX2 k) := by decide +kernel
abbrev cX2_init : ByteArray := prog_4_method_1_code
def yX2_init : MethodName := ⟨RX2, "<init>", "()V"⟩
abbrev cX2_lay : ByteArray := prog_4_method_2_code
def yX2_lay : MethodName := ⟨RX2, "lay", "(IIIIIIZ)V"⟩
abbrev cX2_moveTo : ByteArray := prog_4_method_3_code
def yX2_moveTo : MethodName := ⟨RX2, "moveTo", "(II)V"⟩
abbrev cX2_square : ByteArray := prog_4_method_4_code
def yX2_square : MethodName := ⟨RX2, "square", "()I"⟩
abbrev cX2_isRinger : ByteArray := prog_4_method_5_code
def yX2_isRinger : MethodName := ⟨RX2, "isRinger", "()Z"⟩
abbrev cX2_touchesPin : ByteArray := prog_4_method_6_code
def yX2_touchesPin : MethodName := ⟨RX2, "touchesPin", "()Z"⟩
abbrev cX2_cutNearness : ByteArray := prog_4_method_7_code
def yX2_cutNearness : MethodName := ⟨RX2, "cutNearness", "()I"⟩
abbrev cX2_overlaps : ByteArray := prog_4_method_8_code
def yX2_overlaps : MethodName := ⟨RX2, "overlaps", "(LQuoitBook$Iron;)Z"⟩
abbrev cX2_countSpans : ByteArray := prog_4_method_9_code
def yX2_countSpans : MethodName := ⟨RX2, "countSpans", "()I"⟩
abbrev cX2_knownLow : ByteArray := prog_4_method_10_code
def yX2_knownLow : MethodName := ⟨RX2, "knownLow", "()I"⟩
abbrev cX2_knownHigh : ByteArray := prog_4_method_11_code
def yX2_knownHigh : MethodName := ⟨RX2, "knownHigh", "()I"⟩
abbrev cX2_isDisputed : ByteArray := prog_4_method_12_code
def yX2_isDisputed : MethodName := ⟨RX2, "isDisputed", "()Z"⟩
abbrev cX2_readsSpan : ByteArray := prog_4_method_13_code
def yX2_readsSpan : MethodName := ⟨RX2, "readsSpan", "(I)Z"⟩
abbrev cX2_rootOf : ByteArray := prog_4_method_14_code
def yX2_rootOf : MethodName := ⟨RX2, "rootOf", "(I)J"⟩
abbrev cX2_tenths : ByteArray := prog_4_method_15_code
def yX2_tenths : MethodName := ⟨RX2, "tenths", "(I)J"⟩
def RX3 : String := "QuoitBook$LastEnd"
def TX3 : u_T := fun k => match k with
  | 0 => ("QuoitBook$LastEnd", "weights", "[I", true)
  | 1 => ("QuoitBook$LastEnd", "outOf", "J", false)
  | 2 => ("QuoitBook$LastEnd", "now", "[J", true)
  | 3 => ("QuoitBook$LastEnd", "earlier", "[J", true)
  | _ => ("QuoitBook$LastEnd", "best", "[I", true)
def tyX3 : Nat → FieldType := fun k => match k with
  | 0 => .array .int
  | 1 => .long
  | 2 => .array .long
  | 3 => .array .long
  | _ => .array .int
abbrev wsX30 : List Cond := u_ws RX3 TX3 5
theorem nmX3 : ∀ a, a < 5 → ∀ b, b < 5 → a ≠ b → (TX3 a).2.1 ≠ (TX3 b).2.1 := by decide +kernel
theorem tyX3_ok : ∀ k, k < 5 → parseFieldDescriptor (TX3 k).2.2.1 = some (tyX3 k) := by decide +kernel
abbrev cX3_init : ByteArray := prog_5_method_1_code
def yX3_init : MethodName := ⟨RX3, "<init>", "()V"⟩
abbrev cX3_isLead : ByteArray := prog_5_method_2_code
def yX3_isLead : MethodName := ⟨RX3, "isLead", "(I)Z"⟩
abbrev cX3_firstWeight : ByteArray := prog_5_method_3_code
def yX3_firstWeight : MethodName := ⟨RX3, "firstWeight", "(II)I"⟩
abbrev cX3_chance : ByteArray := prog_5_method_4_code
def yX3_chance : MethodName := ⟨RX3, "chance", "(I)J"⟩
abbrev cX3_bestAct : ByteArray := prog_5_method_5_code
def yX3_bestAct : MethodName := ⟨RX3, "bestAct", "(I)I"⟩
abbrev cX3_work : ByteArray := prog_5_method_6_code
def yX3_work : MethodName := ⟨RX3, "work", "(III)V"⟩
abbrev cX3_chooseAct : ByteArray := prog_5_method_7_code
def yX3_chooseAct : MethodName := ⟨RX3, "chooseAct", "(II)V"⟩
abbrev cX3_chanceBy : ByteArray := prog_5_method_8_code
def yX3_chanceBy : MethodName := ⟨RX3, "chanceBy", "(III)J"⟩
def RX4 : String := "QuoitBook$Match"
def TX4 : u_T := fun k => match k with
  | 0 => ("QuoitBook$Match", "home", "I", true)
  | 1 => ("QuoitBook$Match", "away", "I", true)
  | 2 => ("QuoitBook$Match", "mode", "I", true)
  | 3 => ("QuoitBook$Match", "scores", "[I", true)
  | 4 => ("QuoitBook$Match", "told", "I", false)
  | 5 => ("QuoitBook$Match", "closed", "Z", false)
  | 6 => ("QuoitBook$Match", "counting", "I", false)
  | 7 => ("QuoitBook$Match", "homePoints", "I", false)
  | 8 => ("QuoitBook$Match", "awayPoints", "I", false)
  | _ => ("QuoitBook$Match", "state", "I", false)
def tyX4 : Nat → FieldType := fun k => match k with
  | 0 => .int
  | 1 => .int
  | 2 => .int
  | 3 => .array .int
  | 4 => .int
  | 5 => .boolean
  | 6 => .int
  | 7 => .int
  | 8 => .int
  | _ => .int
abbrev wsX40 : List Cond := u_ws RX4 TX4 10
theorem nmX4 : ∀ a, a < 10 → ∀ b, b < 10 → a ≠ b → (TX4 a).2.1 ≠ (TX4 b).2.1 := by decide +kernel
theorem tyX4_ok : ∀ k, k < 10 → parseFieldDescriptor (TX4 k).2.2.1 = some (tyX4 k) := by decide +kernel
abbrev cX4_init : ByteArray := prog_6_method_1_code
def yX4_init : MethodName := ⟨RX4, "<init>", "(III)V"⟩
abbrev cX4_work : ByteArray := prog_6_method_2_code
def yX4_work : MethodName := ⟨RX4, "work", "(II)V"⟩
abbrev cX4_addPoints : ByteArray := prog_6_method_3_code
def yX4_addPoints : MethodName := ⟨RX4, "addPoints", "(I)V"⟩
abbrev cX4_whoLeads : ByteArray := prog_6_method_4_code
def yX4_whoLeads : MethodName := ⟨RX4, "whoLeads", "(I)I"⟩
abbrev cX4_isOf : ByteArray := prog_6_method_5_code
def yX4_isOf : MethodName := ⟨RX4, "isOf", "(I)Z"⟩
abbrev cX4_tableFor : ByteArray := prog_6_method_6_code
def yX4_tableFor : MethodName := ⟨RX4, "tableFor", "(I)I"⟩
def RX5 : String := "QuoitBook$Order"
def TX5 : u_T := fun k => match k with
  | 0 => ("QuoitBook$Order", "words", "[I", true)
  | 1 => ("QuoitBook$Order", "length", "I", false)
  | _ => ("QuoitBook$Order", "toldSet", "I", false)
def tyX5 : Nat → FieldType := fun k => match k with
  | 0 => .array .int
  | 1 => .int
  | _ => .int
abbrev wsX50 : List Cond := u_ws RX5 TX5 3
theorem nmX5 : ∀ a, a < 3 → ∀ b, b < 3 → a ≠ b → (TX5 a).2.1 ≠ (TX5 b).2.1 := by decide +kernel
theorem tyX5_ok : ∀ k, k < 3 → parseFieldDescriptor (TX5 k).2.2.1 = some (tyX5 k) := by decide +kernel
abbrev cX5_init : ByteArray := prog_7_method_1_code
def yX5_init : MethodName := ⟨RX5, "<init>", "()V"⟩
abbrev cX5_become : ByteArray := prog_7_method_2_code
def yX5_become : MethodName := ⟨RX5, "become", "(LQuoitBook$Order;)V"⟩
abbrev cX5_read : ByteArray := prog_7_method_3_code
def yX5_read : MethodName := ⟨RX5, "read", "(LQuoitBook$Text;)I"⟩
abbrev cX5_readWord : ByteArray := prog_7_method_4_code
def yX5_readWord : MethodName := ⟨RX5, "readWord", "(LQuoitBook$Text;)V"⟩
abbrev cX5_wordSpelled : ByteArray := prog_7_method_5_code
def yX5_wordSpelled : MethodName := ⟨RX5, "wordSpelled", "(LQuoitBook$Text;I)I"⟩
abbrev cX5_orderWord : ByteArray := prog_7_method_6_code
def yX5_orderWord : MethodName := ⟨RX5, "orderWord", "(I)Ljava/lang/String;"⟩
def RX6 : String := "QuoitBook$Rule"
def TX6 : u_T := fun k => match k with
  | 0 => ("QuoitBook$Rule", "values", "[I", true)
  | _ => ("QuoitBook$Rule", "toldSet", "I", false)
def tyX6 : Nat → FieldType := fun k => match k with
  | 0 => .array .int
  | _ => .int
abbrev wsX60 : List Cond := u_ws RX6 TX6 2
theorem nmX6 : ∀ a, a < 2 → ∀ b, b < 2 → a ≠ b → (TX6 a).2.1 ≠ (TX6 b).2.1 := by decide +kernel
theorem tyX6_ok : ∀ k, k < 2 → parseFieldDescriptor (TX6 k).2.2.1 = some (tyX6 k) := by decide +kernel
abbrev cX6_init : ByteArray := prog_8_method_1_code
def yX6_init : MethodName := ⟨RX6, "<init>", "()V"⟩
abbrev cX6_become : ByteArray := prog_8_method_2_code
def yX6_become : MethodName := ⟨RX6, "become", "(LQuoitBook$Rule;)V"⟩
abbrev cX6_read : ByteArray := prog_8_method_3_code
def yX6_read : MethodName := ⟨RX6, "read", "(LQuoitBook$Text;)I"⟩
abbrev cX6_readClause : ByteArray := prog_8_method_4_code
def yX6_readClause : MethodName := ⟨RX6, "readClause", "(LQuoitBook$Text;)V"⟩
abbrev cX6_readNumber : ByteArray := prog_8_method_5_code
def yX6_readNumber : MethodName := ⟨RX6, "readNumber", "(LQuoitBook$Text;I)V"⟩
abbrev cX6_numberUpTo : ByteArray := prog_8_method_6_code
def yX6_numberUpTo : MethodName := ⟨RX6, "numberUpTo", "(LQuoitBook$Text;I)I"⟩
abbrev cX6_readChoice : ByteArray := prog_8_method_7_code
def yX6_readChoice : MethodName := ⟨RX6, "readChoice", "(LQuoitBook$Text;I)V"⟩
abbrev cX6_readClosing : ByteArray := prog_8_method_8_code
def yX6_readClosing : MethodName := ⟨RX6, "readClosing", "(LQuoitBook$Text;)V"⟩
abbrev cX6_clauseSpelled : ByteArray := prog_8_method_9_code
def yX6_clauseSpelled : MethodName := ⟨RX6, "clauseSpelled", "(LQuoitBook$Text;I)I"⟩
abbrev cX6_clauseWord : ByteArray := prog_8_method_10_code
def yX6_clauseWord : MethodName := ⟨RX6, "clauseWord", "(I)Ljava/lang/String;"⟩
abbrev cX6_cancelSpelled : ByteArray := prog_8_method_11_code
def yX6_cancelSpelled : MethodName := ⟨RX6, "cancelSpelled", "(LQuoitBook$Text;I)I"⟩
abbrev cX6_yesSpelled : ByteArray := prog_8_method_12_code
def yX6_yesSpelled : MethodName := ⟨RX6, "yesSpelled", "(LQuoitBook$Text;I)I"⟩
def RX7 : String := "QuoitBook$Tally"
def TX7 : u_T := fun k => match k with
  | 0 => ("QuoitBook$Tally", "counting", "I", false)
  | 1 => ("QuoitBook$Tally", "payingRingers", "I", false)
  | 2 => ("QuoitBook$Tally", "payingAhead", "I", false)
  | 3 => ("QuoitBook$Tally", "points", "[I", true)
  | 4 => ("QuoitBook$Tally", "roots", "[J", true)
  | _ => ("QuoitBook$Tally", "tenths", "[J", true)
def tyX7 : Nat → FieldType := fun k => match k with
  | 0 => .int
  | 1 => .int
  | 2 => .int
  | 3 => .array .int
  | 4 => .array .long
  | _ => .array .long
abbrev wsX70 : List Cond := u_ws RX7 TX7 6
theorem nmX7 : ∀ a, a < 6 → ∀ b, b < 6 → a ≠ b → (TX7 a).2.1 ≠ (TX7 b).2.1 := by decide +kernel
theorem tyX7_ok : ∀ k, k < 6 → parseFieldDescriptor (TX7 k).2.2.1 = some (tyX7 k) := by decide +kernel
abbrev cX7_init : ByteArray := prog_9_method_1_code
def yX7_init : MethodName := ⟨RX7, "<init>", "()V"⟩
abbrev cX7_difference : ByteArray := prog_9_method_2_code
def yX7_difference : MethodName := ⟨RX7, "difference", "()I"⟩
abbrev cX7_work : ByteArray := prog_9_method_3_code
def yX7_work : MethodName := ⟨RX7, "work", "(LQuoitBook$Clay;LQuoitBook$Rule;I)V"⟩
abbrev cX7_disputedCounts : ByteArray := prog_9_method_4_code
def yX7_disputedCounts : MethodName := ⟨RX7, "disputedCounts", "(LQuoitBook$Clay;LQuoitBook$Rule;)Z"⟩
abbrev cX7_countingOf : ByteArray := prog_9_method_5_code
def yX7_countingOf : MethodName := ⟨RX7, "countingOf", "(LQuoitBook$Clay;LQuoitBook$Rule;)I"⟩
abbrev cX7_ringersThatPay : ByteArray := prog_9_method_6_code
def yX7_ringersThatPay : MethodName := ⟨RX7, "ringersThatPay", "(LQuoitBook$Clay;II)I"⟩
abbrev cX7_latest : ByteArray := prog_9_method_7_code
def yX7_latest : MethodName := ⟨RX7, "latest", "(II)I"⟩
abbrev cX7_earliest : ByteArray := prog_9_method_8_code
def yX7_earliest : MethodName := ⟨RX7, "earliest", "(II)I"⟩
abbrev cX7_readNearness : ByteArray := prog_9_method_9_code
def yX7_readNearness : MethodName := ⟨RX7, "readNearness", "(LQuoitBook$Clay;I)V"⟩
abbrev cX7_aheadOf : ByteArray := prog_9_method_10_code
def yX7_aheadOf : MethodName := ⟨RX7, "aheadOf", "(III)I"⟩
abbrev cX7_isAhead : ByteArray := prog_9_method_11_code
def yX7_isAhead : MethodName := ⟨RX7, "isAhead", "(III)Z"⟩
abbrev cX7_readingOf : ByteArray := prog_9_method_12_code
def yX7_readingOf : MethodName := ⟨RX7, "readingOf", "(LQuoitBook$Iron;I)I"⟩
def RX8 : String := "QuoitBook$Text"
def TX8 : u_T := fun k => match k with
  | 0 => ("QuoitBook$Text", "bytes", "[I", true)
  | 1 => ("QuoitBook$Text", "length", "I", false)
  | 2 => ("QuoitBook$Text", "at", "I", false)
  | 3 => ("QuoitBook$Text", "faultKind", "I", false)
  | _ => ("QuoitBook$Text", "faultAt", "I", false)
def tyX8 : Nat → FieldType := fun k => match k with
  | 0 => .array .int
  | 1 => .int
  | 2 => .int
  | 3 => .int
  | _ => .int
abbrev wsX80 : List Cond := u_ws RX8 TX8 5
theorem nmX8 : ∀ a, a < 5 → ∀ b, b < 5 → a ≠ b → (TX8 a).2.1 ≠ (TX8 b).2.1 := by decide +kernel
theorem tyX8_ok : ∀ k, k < 5 → parseFieldDescriptor (TX8 k).2.2.1 = some (tyX8 k) := by decide +kernel
abbrev cX8_init : ByteArray := prog_10_method_1_code
def yX8_init : MethodName := ⟨RX8, "<init>", "()V"⟩
abbrev cX8_add : ByteArray := prog_10_method_2_code
def yX8_add : MethodName := ⟨RX8, "add", "(I)V"⟩
abbrev cX8_clear : ByteArray := prog_10_method_3_code
def yX8_clear : MethodName := ⟨RX8, "clear", "()V"⟩
abbrev cX8_startReading : ByteArray := prog_10_method_4_code
def yX8_startReading : MethodName := ⟨RX8, "startReading", "()V"⟩
abbrev cX8_isSound : ByteArray := prog_10_method_5_code
def yX8_isSound : MethodName := ⟨RX8, "isSound", "()Z"⟩
abbrev cX8_refuse : ByteArray := prog_10_method_6_code
def yX8_refuse : MethodName := ⟨RX8, "refuse", "(II)V"⟩
abbrev cX8_byteAt : ByteArray := prog_10_method_7_code
def yX8_byteAt : MethodName := ⟨RX8, "byteAt", "(I)I"⟩
abbrev cX8_skipBlanks : ByteArray := prog_10_method_8_code
def yX8_skipBlanks : MethodName := ⟨RX8, "skipBlanks", "()V"⟩
abbrev cX8_wordStop : ByteArray := prog_10_method_9_code
def yX8_wordStop : MethodName := ⟨RX8, "wordStop", "()I"⟩
abbrev cX8_figuresStop : ByteArray := prog_10_method_10_code
def yX8_figuresStop : MethodName := ⟨RX8, "figuresStop", "()I"⟩
abbrev cX8_spells : ByteArray := prog_10_method_11_code
def yX8_spells : MethodName := ⟨RX8, "spells", "(ILjava/lang/String;)Z"⟩
def RX9 : String := "QuoitBook"
def TX9 : u_T := fun k => match k with
  | 0 => ("QuoitBook", "clay", "LQuoitBook$Clay;", true)
  | 1 => ("QuoitBook", "text", "LQuoitBook$Text;", true)
  | 2 => ("QuoitBook", "rules", "[LQuoitBook$Rule;", true)
  | 3 => ("QuoitBook", "ruleDraft", "LQuoitBook$Rule;", true)
  | 4 => ("QuoitBook", "tally", "LQuoitBook$Tally;", true)
  | 5 => ("QuoitBook", "lastEnd", "LQuoitBook$LastEnd;", true)
  | 6 => ("QuoitBook", "book", "LQuoitBook$Book;", true)
  | _ => ("QuoitBook", "orderDraft", "LQuoitBook$Order;", true)
def tyX9 : Nat → FieldType := fun k => match k with
  | 0 => .object "QuoitBook$Clay"
  | 1 => .object "QuoitBook$Text"
  | 2 => .array (.object "QuoitBook$Rule")
  | 3 => .object "QuoitBook$Rule"
  | 4 => .object "QuoitBook$Tally"
  | 5 => .object "QuoitBook$LastEnd"
  | 6 => .object "QuoitBook$Book"
  | _ => .object "QuoitBook$Order"
abbrev wsX90 : List Cond := u_ws RX9 TX9 8
theorem nmX9 : ∀ a, a < 8 → ∀ b, b < 8 → a ≠ b → (TX9 a).2.1 ≠ (TX9 b).2.1 := by decide +kernel
theorem tyX9_ok : ∀ k, k < 8 → parseFieldDescriptor (TX9 k).2.2.1 = some (tyX9 k) := by decide +kernel
abbrev cX9_init : ByteArray := prog_1_method_1_code
def yX9_init : MethodName := ⟨RX9, "<init>", "()V"⟩
abbrev cX9_rake : ByteArray := prog_1_method_2_code
def yX9_rake : MethodName := ⟨RX9, "rake", "()I"⟩
abbrev cX9_iron : ByteArray := prog_1_method_3_code
def yX9_iron : MethodName := ⟨RX9, "iron", "(IIIIIIZ)I"⟩
abbrev cX9_knock : ByteArray := prog_1_method_4_code
def yX9_knock : MethodName := ⟨RX9, "knock", "(III)I"⟩
abbrev cX9_off : ByteArray := prog_1_method_5_code
def yX9_off : MethodName := ⟨RX9, "off", "(I)I"⟩
abbrev cX9_told : ByteArray := prog_1_method_6_code
def yX9_told : MethodName := ⟨RX9, "told", "(II)I"⟩
abbrev cX9_nearer : ByteArray := prog_1_method_7_code
def yX9_nearer : MethodName := ⟨RX9, "nearer", "(III)I"⟩
abbrev cX9_count : ByteArray := prog_1_method_8_code
def yX9_count : MethodName := ⟨RX9, "count", "(I)I"⟩
abbrev cX9_feed : ByteArray := prog_1_method_9_code
def yX9_feed : MethodName := ⟨RX9, "feed", "(IJ)I"⟩
abbrev cX9_rule : ByteArray := prog_1_method_10_code
def yX9_rule : MethodName := ⟨RX9, "rule", "(I)I"⟩
abbrev cX9_fault : ByteArray := prog_1_method_11_code
def yX9_fault : MethodName := ⟨RX9, "fault", "()I"⟩
abbrev cX9_says : ByteArray := prog_1_method_12_code
def yX9_says : MethodName := ⟨RX9, "says", "(II)I"⟩
abbrev cX9_score : ByteArray := prog_1_method_13_code
def yX9_score : MethodName := ⟨RX9, "score", "(II)I"⟩
abbrev cX9_measure : ByteArray := prog_1_method_14_code
def yX9_measure : MethodName := ⟨RX9, "measure", "(IIII)I"⟩
abbrev cX9_known : ByteArray := prog_1_method_15_code
def yX9_known : MethodName := ⟨RX9, "known", "(II)I"⟩
abbrev cX9_sure : ByteArray := prog_1_method_16_code
def yX9_sure : MethodName := ⟨RX9, "sure", "(II)I"⟩
abbrev cX9_act : ByteArray := prog_1_method_17_code
def yX9_act : MethodName := ⟨RX9, "act", "(IIIIIII)I"⟩
abbrev cX9_win : ByteArray := prog_1_method_18_code
def yX9_win : MethodName := ⟨RX9, "win", "(IIIII)J"⟩
abbrev cX9_match : ByteArray := prog_1_method_19_code
def yX9_match : MethodName := ⟨RX9, "match", "(III)I"⟩
abbrev cX9_end : ByteArray := prog_1_method_20_code
def yX9_end : MethodName := ⟨RX9, "end", "(II)I"⟩
abbrev cX9_mend : ByteArray := prog_1_method_21_code
def yX9_mend : MethodName := ⟨RX9, "mend", "(III)I"⟩
abbrev cX9_dusk : ByteArray := prog_1_method_22_code
def yX9_dusk : MethodName := ⟨RX9, "dusk", "(I)I"⟩
abbrev cX9_about : ByteArray := prog_1_method_23_code
def yX9_about : MethodName := ⟨RX9, "about", "(II)I"⟩
abbrev cX9_standing : ByteArray := prog_1_method_24_code
def yX9_standing : MethodName := ⟨RX9, "standing", "(II)I"⟩
abbrev cX9_order : ByteArray := prog_1_method_25_code
def yX9_order : MethodName := ⟨RX9, "order", "()I"⟩
abbrev cX9_reach : ByteArray := prog_1_method_26_code
def yX9_reach : MethodName := ⟨RX9, "reach", "(II)I"⟩
abbrev cX9_settle : ByteArray := prog_1_method_27_code
def yX9_settle : MethodName := ⟨RX9, "settle", "(LQuoitBook$Match;)V"⟩
abbrev cX9_settleAll : ByteArray := prog_1_method_28_code
def yX9_settleAll : MethodName := ⟨RX9, "settleAll", "()V"⟩
abbrev cX9_openMatches : ByteArray := prog_1_method_29_code
def yX9_openMatches : MethodName := ⟨RX9, "openMatches", "()I"⟩
abbrev cX9_within : ByteArray := prog_1_method_30_code
def yX9_within : MethodName := ⟨RX9, "within", "(III)Z"⟩
abbrev cX9_isVillage : ByteArray := prog_1_method_31_code
def yX9_isVillage : MethodName := ⟨RX9, "isVillage", "(I)Z"⟩
abbrev cX9_isPlace : ByteArray := prog_1_method_32_code
def yX9_isPlace : MethodName := ⟨RX9, "isPlace", "(II)Z"⟩
abbrev cX9_isWeight : ByteArray := prog_1_method_33_code
def yX9_isWeight : MethodName := ⟨RX9, "isWeight", "(I)Z"⟩
abbrev cX9_isEndScore : ByteArray := prog_1_method_34_code
def yX9_isEndScore : MethodName := ⟨RX9, "isEndScore", "(I)Z"⟩
abbrev cX9_asNumber : ByteArray := prog_1_method_35_code
def yX9_asNumber : MethodName := ⟨RX9, "asNumber", "(Z)I"⟩
abbrev cX9_commonDivisor : ByteArray := prog_1_method_36_code
def yX9_commonDivisor : MethodName := ⟨RX9, "commonDivisor", "(JJ)J"⟩
abbrev cX9_wholeRoot : ByteArray := prog_1_method_37_code
def yX9_wholeRoot : MethodName := ⟨RX9, "wholeRoot", "(I)I"⟩
abbrev cX9_compareSums : ByteArray := prog_1_method_38_code
def yX9_compareSums : MethodName := ⟨RX9, "compareSums", "(JJJJ)I"⟩
abbrev cX9_compareRoots : ByteArray := prog_1_method_39_code
def yX9_compareRoots : MethodName := ⟨RX9, "compareRoots", "(JJJ)I"⟩
def RX10 : String := "QuoitBookModel"
def TX10 : u_T := fun k => match k with
  | 0 => ("QuoitBookModel", "irons", "I", false)
  | 1 => ("QuoitBookModel", "side", "[I", true)
  | 2 => ("QuoitBookModel", "atX", "[I", true)
  | 3 => ("QuoitBookModel", "atY", "[I", true)
  | 4 => ("QuoitBookModel", "size", "[I", true)
  | 5 => ("QuoitBookModel", "hole", "[I", true)
  | 6 => ("QuoitBookModel", "lift", "[I", true)
  | 7 => ("QuoitBookModel", "isUp", "[Z", true)
  | 8 => ("QuoitBookModel", "isOff", "[Z", true)
  | 9 => ("QuoitBookModel", "isTold", "[Z", true)
  | 10 => ("QuoitBookModel", "spanLow", "[I", true)
  | 11 => ("QuoitBookModel", "spanHigh", "[I", true)
  | 12 => ("QuoitBookModel", "text", "[I", true)
  | 13 => ("QuoitBookModel", "textSize", "I", false)
  | 14 => ("QuoitBookModel", "at", "I", false)
  | 15 => ("QuoitBookModel", "fault", "I", false)
  | 16 => ("QuoitBookModel", "place", "I", false)
  | 17 => ("QuoitBookModel", "wordFrom", "I", false)
  | 18 => ("QuoitBookModel", "wordSize", "I", false)
  | 19 => ("QuoitBookModel", "says", "[I", true)
  | 20 => ("QuoitBookModel", "draft", "[I", true)
  | 21 => ("QuoitBookModel", "told", "I", false)
  | 22 => ("QuoitBookModel", "counting", "I", false)
  | 23 => ("QuoitBookModel", "givingRingers", "I", false)
  | 24 => ("QuoitBookModel", "givingNear", "I", false)
  | 25 => ("QuoitBookModel", "points", "[I", true)
  | 26 => ("QuoitBookModel", "root", "[J", true)
  | 27 => ("QuoitBookModel", "whole", "[J", true)
  | 28 => ("QuoitBookModel", "weight", "[I", true)
  | 29 => ("QuoitBookModel", "chance", "[J", true)
  | 30 => ("QuoitBookModel", "later", "[J", true)
  | 31 => ("QuoitBookModel", "bestAct", "I", false)
  | 32 => ("QuoitBookModel", "matches", "I", false)
  | 33 => ("QuoitBookModel", "home", "[I", true)
  | 34 => ("QuoitBookModel", "away", "[I", true)
  | 35 => ("QuoitBookModel", "mode", "[I", true)
  | 36 => ("QuoitBookModel", "isDusk", "[Z", true)
  | 37 => ("QuoitBookModel", "ends", "[I", true)
  | 38 => ("QuoitBookModel", "scores", "[I", true)
  | 39 => ("QuoitBookModel", "ofHome", "I", false)
  | 40 => ("QuoitBookModel", "ofAway", "I", false)
  | 41 => ("QuoitBookModel", "counted", "I", false)
  | 42 => ("QuoitBookModel", "order", "[I", true)
  | 43 => ("QuoitBookModel", "orderMany", "I", false)
  | 44 => ("QuoitBookModel", "table", "[I", true)
  | _ => ("QuoitBookModel", "opened", "[I", true)
def tyX10 : Nat → FieldType := fun k => match k with
  | 0 => .int
  | 1 => .array .int
  | 2 => .array .int
  | 3 => .array .int
  | 4 => .array .int
  | 5 => .array .int
  | 6 => .array .int
  | 7 => .array .boolean
  | 8 => .array .boolean
  | 9 => .array .boolean
  | 10 => .array .int
  | 11 => .array .int
  | 12 => .array .int
  | 13 => .int
  | 14 => .int
  | 15 => .int
  | 16 => .int
  | 17 => .int
  | 18 => .int
  | 19 => .array .int
  | 20 => .array .int
  | 21 => .int
  | 22 => .int
  | 23 => .int
  | 24 => .int
  | 25 => .array .int
  | 26 => .array .long
  | 27 => .array .long
  | 28 => .array .int
  | 29 => .array .long
  | 30 => .array .long
  | 31 => .int
  | 32 => .int
  | 33 => .array .int
  | 34 => .array .int
  | 35 => .array .int
  | 36 => .array .boolean
  | 37 => .array .int
  | 38 => .array .int
  | 39 => .int
  | 40 => .int
  | 41 => .int
  | 42 => .array .int
  | 43 => .int
  | 44 => .array .int
  | _ => .array .int
abbrev wsX100 : List Cond := u_ws RX10 TX10 46
theorem nmX10 : ∀ a, a < 46 → ∀ b, b < 46 → a ≠ b → (TX10 a).2.1 ≠ (TX10 b).2.1 := by decide +kernel
theorem tyX10_ok : ∀ k, k < 46 → parseFieldDescriptor (TX10 k).2.2.1 = some (tyX10 k) := by decide +kernel
abbrev cX10_init : ByteArray := prog_12_method_1_code
def yX10_init : MethodName := ⟨RX10, "<init>", "()V"⟩
abbrev cX10_in : ByteArray := prog_12_method_3_code
def yX10_in : MethodName := ⟨RX10, "in", "(JJJ)Z"⟩
abbrev cX10_bit : ByteArray := prog_12_method_4_code
def yX10_bit : MethodName := ⟨RX10, "bit", "(Z)I"⟩
abbrev cX10_gcd : ByteArray := prog_12_method_5_code
def yX10_gcd : MethodName := ⟨RX10, "gcd", "(JJ)J"⟩
abbrev cX10_noIron : ByteArray := prog_12_method_6_code
def yX10_noIron : MethodName := ⟨RX10, "noIron", "(I)Z"⟩
abbrev cX10_isPlace : ByteArray := prog_12_method_7_code
def yX10_isPlace : MethodName := ⟨RX10, "isPlace", "(II)Z"⟩
abbrev cX10_rake : ByteArray := prog_12_method_8_code
def yX10_rake : MethodName := ⟨RX10, "rake", "()I"⟩
abbrev cX10_forget : ByteArray := prog_12_method_9_code
def yX10_forget : MethodName := ⟨RX10, "forget", "(I)V"⟩
abbrev cX10_iron : ByteArray := prog_12_method_10_code
def yX10_iron : MethodName := ⟨RX10, "iron", "(IIIIIIZ)I"⟩
abbrev cX10_knock : ByteArray := prog_12_method_11_code
def yX10_knock : MethodName := ⟨RX10, "knock", "(III)I"⟩
abbrev cX10_off : ByteArray := prog_12_method_12_code
def yX10_off : MethodName := ⟨RX10, "off", "(I)I"⟩
abbrev cX10_square : ByteArray := prog_12_method_13_code
def yX10_square : MethodName := ⟨RX10, "square", "(I)I"⟩
abbrev cX10_isRinger : ByteArray := prog_12_method_14_code
def yX10_isRinger : MethodName := ⟨RX10, "isRinger", "(I)Z"⟩
abbrev cX10_liesOn : ByteArray := prog_12_method_15_code
def yX10_liesOn : MethodName := ⟨RX10, "liesOn", "(II)Z"⟩
abbrev cX10_hasRoot : ByteArray := prog_12_method_16_code
def yX10_hasRoot : MethodName := ⟨RX10, "hasRoot", "(I)Z"⟩
abbrev cX10_rootOf : ByteArray := prog_12_method_17_code
def yX10_rootOf : MethodName := ⟨RX10, "rootOf", "(I)I"⟩
abbrev cX10_nearness : ByteArray := prog_12_method_18_code
def yX10_nearness : MethodName := ⟨RX10, "nearness", "(I)I"⟩
abbrev cX10_told : ByteArray := prog_12_method_19_code
def yX10_told : MethodName := ⟨RX10, "told", "(II)I"⟩
abbrev cX10_held : ByteArray := prog_12_method_20_code
def yX10_held : MethodName := ⟨RX10, "held", "(JJJJ)I"⟩
abbrev cX10_held2 : ByteArray := prog_12_method_21_code
def yX10_held2 : MethodName := ⟨RX10, "held2", "(JJJ)I"⟩
abbrev cX10_rootPart : ByteArray := prog_12_method_22_code
def yX10_rootPart : MethodName := ⟨RX10, "rootPart", "(I)J"⟩
abbrev cX10_wholePart : ByteArray := prog_12_method_23_code
def yX10_wholePart : MethodName := ⟨RX10, "wholePart", "(I)J"⟩
abbrev cX10_nearer : ByteArray := prog_12_method_24_code
def yX10_nearer : MethodName := ⟨RX10, "nearer", "(III)I"⟩
abbrev cX10_ringersOf : ByteArray := prog_12_method_25_code
def yX10_ringersOf : MethodName := ⟨RX10, "ringersOf", "(I)I"⟩
abbrev cX10_count : ByteArray := prog_12_method_26_code
def yX10_count : MethodName := ⟨RX10, "count", "(I)I"⟩
abbrev cX10_feed : ByteArray := prog_12_method_27_code
def yX10_feed : MethodName := ⟨RX10, "feed", "(IJ)I"⟩
abbrev cX10_here : ByteArray := prog_12_method_28_code
def yX10_here : MethodName := ⟨RX10, "here", "(I)I"⟩
abbrev cX10_want : ByteArray := prog_12_method_29_code
def yX10_want : MethodName := ⟨RX10, "want", "(ZII)Z"⟩
abbrev cX10_takeWord : ByteArray := prog_12_method_30_code
def yX10_takeWord : MethodName := ⟨RX10, "takeWord", "(I)V"⟩
abbrev cX10_isWord : ByteArray := prog_12_method_31_code
def yX10_isWord : MethodName := ⟨RX10, "isWord", "(JI)Z"⟩
abbrev cX10_word5 : ByteArray := prog_12_method_32_code
def yX10_word5 : MethodName := ⟨RX10, "word5", "(IIIII)J"⟩
abbrev cX10_clauseOf : ByteArray := prog_12_method_33_code
def yX10_clauseOf : MethodName := ⟨RX10, "clauseOf", "()I"⟩
abbrev cX10_valueOf : ByteArray := prog_12_method_34_code
def yX10_valueOf : MethodName := ⟨RX10, "valueOf", "(I)I"⟩
abbrev cX10_first : ByteArray := prog_12_method_35_code
def yX10_first : MethodName := ⟨RX10, "first", "(I)I"⟩
abbrev cX10_least : ByteArray := prog_12_method_36_code
def yX10_least : MethodName := ⟨RX10, "least", "(I)I"⟩
abbrev cX10_greatest : ByteArray := prog_12_method_37_code
def yX10_greatest : MethodName := ⟨RX10, "greatest", "(I)I"⟩
abbrev cX10_readValue : ByteArray := prog_12_method_38_code
def yX10_readValue : MethodName := ⟨RX10, "readValue", "(I)V"⟩
abbrev cX10_readClause : ByteArray := prog_12_method_39_code
def yX10_readClause : MethodName := ⟨RX10, "readClause", "()V"⟩
abbrev cX10_isVillage : ByteArray := prog_12_method_40_code
def yX10_isVillage : MethodName := ⟨RX10, "isVillage", "(I)Z"⟩
abbrev cX10_rule : ByteArray := prog_12_method_41_code
def yX10_rule : MethodName := ⟨RX10, "rule", "(I)I"⟩
abbrev cX10_fault : ByteArray := prog_12_method_42_code
def yX10_fault : MethodName := ⟨RX10, "fault", "()I"⟩
abbrev cX10_says : ByteArray := prog_12_method_43_code
def yX10_says : MethodName := ⟨RX10, "says", "(II)I"⟩
abbrev cX10_counts : ByteArray := prog_12_method_44_code
def yX10_counts : MethodName := ⟨RX10, "counts", "(II)Z"⟩
abbrev cX10_ones : ByteArray := prog_12_method_45_code
def yX10_ones : MethodName := ⟨RX10, "ones", "(I)I"⟩
abbrev cX10_lastOf : ByteArray := prog_12_method_46_code
def yX10_lastOf : MethodName := ⟨RX10, "lastOf", "(II)I"⟩
abbrev cX10_firstOf : ByteArray := prog_12_method_47_code
def yX10_firstOf : MethodName := ⟨RX10, "firstOf", "(II)I"⟩
abbrev cX10_findRingers : ByteArray := prog_12_method_48_code
def yX10_findRingers : MethodName := ⟨RX10, "findRingers", "(III)V"⟩
abbrev cX10_isAhead : ByteArray := prog_12_method_49_code
def yX10_isAhead : MethodName := ⟨RX10, "isAhead", "(III)Z"⟩
abbrev cX10_findScore : ByteArray := prog_12_method_50_code
def yX10_findScore : MethodName := ⟨RX10, "findScore", "(I)V"⟩
abbrev cX10_layNearness : ByteArray := prog_12_method_51_code
def yX10_layNearness : MethodName := ⟨RX10, "layNearness", "(I)V"⟩
abbrev cX10_score : ByteArray := prog_12_method_52_code
def yX10_score : MethodName := ⟨RX10, "score", "(II)I"⟩
abbrev cX10_hasSpan : ByteArray := prog_12_method_53_code
def yX10_hasSpan : MethodName := ⟨RX10, "hasSpan", "(I)Z"⟩
abbrev cX10_spanOf : ByteArray := prog_12_method_54_code
def yX10_spanOf : MethodName := ⟨RX10, "spanOf", "(IZ)I"⟩
abbrev cX10_isDisputed : ByteArray := prog_12_method_55_code
def yX10_isDisputed : MethodName := ⟨RX10, "isDisputed", "(I)Z"⟩
abbrev cX10_measure : ByteArray := prog_12_method_56_code
def yX10_measure : MethodName := ⟨RX10, "measure", "(IIII)I"⟩
abbrev cX10_known : ByteArray := prog_12_method_57_code
def yX10_known : MethodName := ⟨RX10, "known", "(II)I"⟩
abbrev cX10_scoreFor : ByteArray := prog_12_method_58_code
def yX10_scoreFor : MethodName := ⟨RX10, "scoreFor", "(II)I"⟩
abbrev cX10_sure : ByteArray := prog_12_method_59_code
def yX10_sure : MethodName := ⟨RX10, "sure", "(II)I"⟩
abbrev cX10_layAct : ByteArray := prog_12_method_60_code
def yX10_layAct : MethodName := ⟨RX10, "layAct", "(IIIIIII)V"⟩
abbrev cX10_isWeight : ByteArray := prog_12_method_61_code
def yX10_isWeight : MethodName := ⟨RX10, "isWeight", "(I)Z"⟩
abbrev cX10_act : ByteArray := prog_12_method_62_code
def yX10_act : MethodName := ⟨RX10, "act", "(IIIIIII)I"⟩
abbrev cX10_worth : ByteArray := prog_12_method_63_code
def yX10_worth : MethodName := ⟨RX10, "worth", "(III)J"⟩
abbrev cX10_bestWorth : ByteArray := prog_12_method_64_code
def yX10_bestWorth : MethodName := ⟨RX10, "bestWorth", "(II)J"⟩
abbrev cX10_win : ByteArray := prog_12_method_65_code
def yX10_win : MethodName := ⟨RX10, "win", "(IIIII)J"⟩
abbrev cX10_noMatch : ByteArray := prog_12_method_66_code
def yX10_noMatch : MethodName := ⟨RX10, "noMatch", "(I)Z"⟩
abbrev cX10_gameOf : ByteArray := prog_12_method_67_code
def yX10_gameOf : MethodName := ⟨RX10, "gameOf", "(II)I"⟩
abbrev cX10_stateOf : ByteArray := prog_12_method_68_code
def yX10_stateOf : MethodName := ⟨RX10, "stateOf", "(I)I"⟩
abbrev cX10_openOnes : ByteArray := prog_12_method_69_code
def yX10_openOnes : MethodName := ⟨RX10, "openOnes", "()I"⟩
abbrev cX10_match : ByteArray := prog_12_method_70_code
def yX10_match : MethodName := ⟨RX10, "match", "(III)I"⟩
abbrev cX10_end : ByteArray := prog_12_method_71_code
def yX10_end : MethodName := ⟨RX10, "end", "(II)I"⟩
abbrev cX10_mend : ByteArray := prog_12_method_72_code
def yX10_mend : MethodName := ⟨RX10, "mend", "(III)I"⟩
abbrev cX10_dusk : ByteArray := prog_12_method_73_code
def yX10_dusk : MethodName := ⟨RX10, "dusk", "(I)I"⟩
abbrev cX10_about : ByteArray := prog_12_method_74_code
def yX10_about : MethodName := ⟨RX10, "about", "(II)I"⟩
abbrev cX10_sumOf : ByteArray := prog_12_method_75_code
def yX10_sumOf : MethodName := ⟨RX10, "sumOf", "(III)I"⟩
abbrev cX10_tableOf : ByteArray := prog_12_method_76_code
def yX10_tableOf : MethodName := ⟨RX10, "tableOf", "(II)I"⟩
abbrev cX10_valueOf_ : ByteArray := prog_12_method_77_code
def yX10_valueOf_ : MethodName := ⟨RX10, "valueOf", "(III)I"⟩
abbrev cX10_aheadOf : ByteArray := prog_12_method_78_code
def yX10_aheadOf : MethodName := ⟨RX10, "aheadOf", "(I)I"⟩
abbrev cX10_standing : ByteArray := prog_12_method_79_code
def yX10_standing : MethodName := ⟨RX10, "standing", "(II)I"⟩
abbrev cX10_orderWord : ByteArray := prog_12_method_80_code
def yX10_orderWord : MethodName := ⟨RX10, "orderWord", "()I"⟩
abbrev cX10_order : ByteArray := prog_12_method_81_code
def yX10_order : MethodName := ⟨RX10, "order", "()I"⟩
abbrev cX10_reach : ByteArray := prog_12_method_82_code
def yX10_reach : MethodName := ⟨RX10, "reach", "(II)I"⟩
def RJ6 : String := "java/lang/Integer"
def TJ6 : u_T := fun k => match k with
  | _ => ("", "", "", false)
def tyJ6 : Nat → FieldType := fun k => match k with
  | _ => .int
abbrev wsJ60 : List Cond := u_ws RJ6 TJ6 0
theorem nmJ6 : ∀ a, a < 0 → ∀ b, b < 0 → a ≠ b → (TJ6 a).2.1 ≠ (TJ6 b).2.1 := by decide +kernel
theorem tyJ6_ok : ∀ k, k < 0 → parseFieldDescriptor (TJ6 k).2.2.1 = some (tyJ6 k) := by decide +kernel
abbrev cJ6_bitCount_0f7a4 : ByteArray := prog_13_method_49_code
def yJ6_bitCount_0f7a4 : MethodName := ⟨RJ6, "bitCount", "(I)I"⟩
def RJ13 : String := "java/lang/Long"
def TJ13 : u_T := fun k => match k with
  | _ => ("", "", "", false)
def tyJ13 : Nat → FieldType := fun k => match k with
  | _ => .int
abbrev wsJ130 : List Cond := u_ws RJ13 TJ13 0
theorem nmJ13 : ∀ a, a < 0 → ∀ b, b < 0 → a ≠ b → (TJ13 a).2.1 ≠ (TJ13 b).2.1 := by decide +kernel
theorem tyJ13_ok : ∀ k, k < 0 → parseFieldDescriptor (TJ13 k).2.2.1 = some (tyJ13 k) := by decide +kernel
abbrev cJ13_compare_74951 : ByteArray := prog_14_method_42_code
def yJ13_compare_74951 : MethodName := ⟨RJ13, "compare", "(JJ)I"⟩
def RJ9 : String := "java/lang/Math"
def TJ9 : u_T := fun k => match k with
  | _ => ("", "", "", false)
def tyJ9 : Nat → FieldType := fun k => match k with
  | _ => .int
abbrev wsJ90 : List Cond := u_ws RJ9 TJ9 0
theorem nmJ9 : ∀ a, a < 0 → ∀ b, b < 0 → a ≠ b → (TJ9 a).2.1 ≠ (TJ9 b).2.1 := by decide +kernel
theorem tyJ9_ok : ∀ k, k < 0 → parseFieldDescriptor (TJ9 k).2.2.1 = some (tyJ9 k) := by decide +kernel
abbrev cJ9_max_7cf53 : ByteArray := prog_15_method_65_code
def yJ9_max_7cf53 : MethodName := ⟨RJ9, "max", "(II)I"⟩
abbrev cJ9_max_f86c9 : ByteArray := prog_15_method_66_code
def yJ9_max_f86c9 : MethodName := ⟨RJ9, "max", "(JJ)J"⟩
abbrev cJ9_min_7cf53 : ByteArray := prog_15_method_69_code
def yJ9_min_7cf53 : MethodName := ⟨RJ9, "min", "(II)I"⟩
def RJ0 : String := "java/lang/String"
def TJ0 : u_T := fun k => match k with
  | _ => ("", "", "", false)
def tyJ0 : Nat → FieldType := fun k => match k with
  | _ => .int
abbrev wsJ00 : List Cond := u_ws RJ0 TJ0 0
theorem nmJ0 : ∀ a, a < 0 → ∀ b, b < 0 → a ≠ b → (TJ0 a).2.1 ≠ (TJ0 b).2.1 := by decide +kernel
theorem tyJ0_ok : ∀ k, k < 0 → parseFieldDescriptor (TJ0 k).2.2.1 = some (tyJ0 k) := by decide +kernel
abbrev cJ0_length_8abf5 : ByteArray := prog_16_method_54_code
def yJ0_length_8abf5 : MethodName := ⟨RJ0, "length", "()I"⟩
abbrev cJ0_charAt_5068e : ByteArray := prog_16_method_56_code
def yJ0_charAt_5068e : MethodName := ⟨RJ0, "charAt", "(I)C"⟩
abbrev cJ0_coder_7d493 : ByteArray := prog_16_method_152_code
def yJ0_coder_7d493 : MethodName := ⟨RJ0, "coder", "()B"⟩
abbrev cJ0_isLatin1_aae02 : ByteArray := prog_16_method_154_code
def yJ0_isLatin1_aae02 : MethodName := ⟨RJ0, "isLatin1", "()Z"⟩
abbrev cJ0_checkIndex_df160 : ByteArray := prog_16_method_155_code
def yJ0_checkIndex_df160 : MethodName := ⟨RJ0, "checkIndex", "(II)V"⟩
def RJ1 : String := "java/lang/StringLatin1"
def TJ1 : u_T := fun k => match k with
  | _ => ("", "", "", false)
def tyJ1 : Nat → FieldType := fun k => match k with
  | _ => .int
abbrev wsJ10 : List Cond := u_ws RJ1 TJ1 0
theorem nmJ1 : ∀ a, a < 0 → ∀ b, b < 0 → a ≠ b → (TJ1 a).2.1 ≠ (TJ1 b).2.1 := by decide +kernel
theorem tyJ1_ok : ∀ k, k < 0 → parseFieldDescriptor (TJ1 k).2.2.1 = some (tyJ1 k) := by decide +kernel
abbrev cJ1_charAt_3b067 : ByteArray := prog_17_method_2_code
def yJ1_charAt_3b067 : MethodName := ⟨RJ1, "charAt", "([BI)C"⟩
def RJ2 : String := "java/lang/StringUTF16"
def TJ2 : u_T := fun k => match k with
  | _ => ("", "", "", false)
def tyJ2 : Nat → FieldType := fun k => match k with
  | _ => .int
abbrev wsJ20 : List Cond := u_ws RJ2 TJ2 0
theorem nmJ2 : ∀ a, a < 0 → ∀ b, b < 0 → a ≠ b → (TJ2 a).2.1 ≠ (TJ2 b).2.1 := by decide +kernel
theorem tyJ2_ok : ∀ k, k < 0 → parseFieldDescriptor (TJ2 k).2.2.1 = some (tyJ2 k) := by decide +kernel
abbrev cJ2_getChar_3b067 : ByteArray := prog_18_method_5_code
def yJ2_getChar_3b067 : MethodName := ⟨RJ2, "getChar", "([BI)C"⟩
abbrev cJ2_length_9d52b : ByteArray := prog_18_method_6_code
def yJ2_length_9d52b : MethodName := ⟨RJ2, "length", "([B)I"⟩
abbrev cJ2_charAt_3b067 : ByteArray := prog_18_method_83_code
def yJ2_charAt_3b067 : MethodName := ⟨RJ2, "charAt", "([BI)C"⟩
abbrev cJ2_checkIndex_2214a : ByteArray := prog_18_method_91_code
def yJ2_checkIndex_2214a : MethodName := ⟨RJ2, "checkIndex", "(I[B)V"⟩
def RJ10 : String := "java/lang/System"
def TJ10 : u_T := fun k => match k with
  | _ => ("", "", "", false)
def tyJ10 : Nat → FieldType := fun k => match k with
  | _ => .int
abbrev wsJ100 : List Cond := u_ws RJ10 TJ10 0
theorem nmJ10 : ∀ a, a < 0 → ∀ b, b < 0 → a ≠ b → (TJ10 a).2.1 ≠ (TJ10 b).2.1 := by decide +kernel
theorem tyJ10_ok : ∀ k, k < 0 → parseFieldDescriptor (TJ10 k).2.2.1 = some (tyJ10 k) := by decide +kernel
def RJ3 : String := "jdk/internal/util/Preconditions"
def TJ3 : u_T := fun k => match k with
  | _ => ("", "", "", false)
def tyJ3 : Nat → FieldType := fun k => match k with
  | _ => .int
abbrev wsJ30 : List Cond := u_ws RJ3 TJ3 0
theorem nmJ3 : ∀ a, a < 0 → ∀ b, b < 0 → a ≠ b → (TJ3 a).2.1 ≠ (TJ3 b).2.1 := by decide +kernel
theorem tyJ3_ok : ∀ k, k < 0 → parseFieldDescriptor (TJ3 k).2.2.1 = some (tyJ3 k) := by decide +kernel
abbrev cJ3_checkIndex_8e157 : ByteArray := prog_20_method_11_code
def yJ3_checkIndex_8e157 : MethodName := ⟨RJ3, "checkIndex", "(IILjava/util/function/BiFunction;)I"⟩
def RL : String := "QuoitBookLaw"
abbrev cL_law : ByteArray := code
def yL_law : MethodName := ⟨RL, "law", "([I)Z"⟩
set_option maxRecDepth 20000 in
theorem inX0 : ∀ w ∈ wsX00, w ∈ lw_tbl := by decide +kernel
set_option maxRecDepth 20000 in
theorem inX1 : ∀ w ∈ wsX10, w ∈ lw_tbl := by decide +kernel
set_option maxRecDepth 20000 in
theorem inX2 : ∀ w ∈ wsX20, w ∈ lw_tbl := by decide +kernel
set_option maxRecDepth 20000 in
theorem inX3 : ∀ w ∈ wsX30, w ∈ lw_tbl := by decide +kernel
set_option maxRecDepth 20000 in
theorem inX4 : ∀ w ∈ wsX40, w ∈ lw_tbl := by decide +kernel
set_option maxRecDepth 20000 in
theorem inX5 : ∀ w ∈ wsX50, w ∈ lw_tbl := by decide +kernel
set_option maxRecDepth 20000 in
theorem inX6 : ∀ w ∈ wsX60, w ∈ lw_tbl := by decide +kernel
set_option maxRecDepth 20000 in
theorem inX7 : ∀ w ∈ wsX70, w ∈ lw_tbl := by decide +kernel
set_option maxRecDepth 20000 in
theorem inX8 : ∀ w ∈ wsX80, w ∈ lw_tbl := by decide +kernel
set_option maxRecDepth 20000 in
theorem inX9 : ∀ w ∈ wsX90, w ∈ lw_tbl := by decide +kernel
set_option maxRecDepth 20000 in
theorem inX10 : ∀ w ∈ wsX100, w ∈ lw_tbl := by decide +kernel
theorem inJ6 : ∀ w ∈ wsJ60, w ∈ lw_tbl := by decide +kernel
theorem inJ13 : ∀ w ∈ wsJ130, w ∈ lw_tbl := by decide +kernel
theorem inJ9 : ∀ w ∈ wsJ90, w ∈ lw_tbl := by decide +kernel
theorem inJ0 : ∀ w ∈ wsJ00, w ∈ lw_tbl := by decide +kernel
theorem inJ1 : ∀ w ∈ wsJ10, w ∈ lw_tbl := by decide +kernel
theorem inJ2 : ∀ w ∈ wsJ20, w ∈ lw_tbl := by decide +kernel
theorem inJ10 : ∀ w ∈ wsJ100, w ∈ lw_tbl := by decide +kernel
theorem inJ3 : ∀ w ∈ wsJ30, w ∈ lw_tbl := by decide +kernel
abbrev vwCl : List vw_C := [(RX0, TX0, 10), (RX1, TX1, 2), (RX2, TX2, 10), (RX3, TX3, 5), (RX4, TX4, 10), (RX5, TX5, 3), (RX6, TX6, 2), (RX7, TX7, 6), (RX8, TX8, 5), (RX9, TX9, 8), (RX10, TX10, 46)]
end
section
theorem dX0_init_0 : decode cX0_init 0 = .ok (.aload_n 0, 1) := by decide +kernel
theorem dX0_init_1 : decode cX0_init 1 = .ok (.invokespecial 3, 3) := by decide +kernel
theorem dX0_init_4 : decode cX0_init 4 = .ok (.aload_n 0, 1) := by decide +kernel
theorem dX0_init_5 : decode cX0_init 5 = .ok (.bipush 24, 2) := by decide +kernel
theorem dX0_init_7 : decode cX0_init 7 = .ok (.anewarray 11, 3) := by decide +kernel
theorem dX0_init_10 : decode cX0_init 10 = .ok (.putfield 13, 3) := by decide +kernel
theorem dX0_init_13 : decode cX0_init 13 = .ok (.aload_n 0, 1) := by decide +kernel
theorem dX0_init_14 : decode cX0_init 14 = .ok (.new 17, 3) := by decide +kernel
theorem dX0_init_17 : decode cX0_init 17 = .ok (.dup, 1) := by decide +kernel
theorem dX0_init_18 : decode cX0_init 18 = .ok (.invokespecial 19, 3) := by decide +kernel
theorem dX0_init_21 : decode cX0_init 21 = .ok (.putfield 20, 3) := by decide +kernel
theorem dX0_init_24 : decode cX0_init 24 = .ok (.aload_n 0, 1) := by decide +kernel
theorem dX0_init_25 : decode cX0_init 25 = .ok (.bipush 6, 2) := by decide +kernel
theorem dX0_init_27 : decode cX0_init 27 = .ok (.bipush 6, 2) := by decide +kernel
theorem dX0_init_29 : decode cX0_init 29 = .ok (.multianewarray 24 2, 4) := by decide +kernel
theorem dX0_init_33 : decode cX0_init 33 = .ok (.putfield 26, 3) := by decide +kernel
theorem dX0_init_36 : decode cX0_init 36 = .ok (.aload_n 0, 1) := by decide +kernel
theorem dX0_init_37 : decode cX0_init 37 = .ok (.iconst 5, 1) := by decide +kernel
theorem dX0_init_38 : decode cX0_init 38 = .ok (.bipush 6, 2) := by decide +kernel
theorem dX0_init_40 : decode cX0_init 40 = .ok (.multianewarray 24 2, 4) := by decide +kernel
theorem dX0_init_44 : decode cX0_init 44 = .ok (.putfield 29, 3) := by decide +kernel
theorem dX0_init_47 : decode cX0_init 47 = .ok (.aload_n 0, 1) := by decide +kernel
theorem dX0_init_48 : decode cX0_init 48 = .ok (.bipush 6, 2) := by decide +kernel
theorem dX0_init_50 : decode cX0_init 50 = .ok (.newarray .int, 2) := by decide +kernel
theorem dX0_init_52 : decode cX0_init 52 = .ok (.putfield 32, 3) := by decide +kernel
theorem dX0_init_55 : decode cX0_init 55 = .ok (.aload_n 0, 1) := by decide +kernel
theorem dX0_init_56 : decode cX0_init 56 = .ok (.bipush 6, 2) := by decide +kernel
theorem dX0_init_58 : decode cX0_init 58 = .ok (.newarray .int, 2) := by decide +kernel
theorem dX0_init_60 : decode cX0_init 60 = .ok (.putfield 36, 3) := by decide +kernel
theorem dX0_init_63 : decode cX0_init 63 = .ok (.return_, 1) := by decide +kernel
theorem dX0_find_0 : decode cX0_find 0 = .ok (.iload_n 1, 1) := by decide +kernel
theorem dX0_find_1 : decode cX0_find 1 = .ok (.iconst 0, 1) := by decide +kernel
theorem dX0_find_2 : decode cX0_find 2 = .ok (.aload_n 0, 1) := by decide +kernel
theorem dX0_find_3 : decode cX0_find 3 = .ok (.getfield 39, 3) := by decide +kernel
theorem dX0_find_6 : decode cX0_find 6 = .ok (.iconst 1, 1) := by decide +kernel
theorem dX0_find_7 : decode cX0_find 7 = .ok (.isub, 1) := by decide +kernel
theorem dX0_find_8 : decode cX0_find 8 = .ok (.invokestatic 43, 3) := by decide +kernel
theorem dX0_find_11 : decode cX0_find 11 = .ok (.ifCond .eq 12, 3) := by decide +kernel
theorem dX0_find_14 : decode cX0_find 14 = .ok (.aload_n 0, 1) := by decide +kernel
theorem dX0_find_15 : decode cX0_find 15 = .ok (.getfield 13, 3) := by decide +kernel
theorem dX0_find_18 : decode cX0_find 18 = .ok (.iload_n 1, 1) := by decide +kernel
theorem dX0_find_19 : decode cX0_find 19 = .ok (.aaload, 1) := by decide +kernel
theorem dX0_find_20 : decode cX0_find 20 = .ok (.goto 4, 3) := by decide +kernel
theorem dX0_find_23 : decode cX0_find 23 = .ok (.aconst_null, 1) := by decide +kernel
theorem dX0_find_24 : decode cX0_find 24 = .ok (.areturn, 1) := by decide +kernel
theorem dX0_add_0 : decode cX0_add 0 = .ok (.aload_n 0, 1) := by decide +kernel
theorem dX0_add_1 : decode cX0_add 1 = .ok (.getfield 39, 3) := by decide +kernel
theorem dX0_add_4 : decode cX0_add 4 = .ok (.bipush 24, 2) := by decide +kernel
theorem dX0_add_6 : decode cX0_add 6 = .ok (.if_icmp .lt 7, 3) := by decide +kernel
theorem dX0_add_9 : decode cX0_add 9 = .ok (.sipush (-1004), 3) := by decide +kernel
theorem dX0_add_12 : decode cX0_add 12 = .ok (.ireturn, 1) := by decide +kernel
theorem dX0_add_13 : decode cX0_add 13 = .ok (.aload_n 0, 1) := by decide +kernel
theorem dX0_add_14 : decode cX0_add 14 = .ok (.getfield 13, 3) := by decide +kernel
theorem dX0_add_17 : decode cX0_add 17 = .ok (.aload_n 0, 1) := by decide +kernel
theorem dX0_add_18 : decode cX0_add 18 = .ok (.getfield 39, 3) := by decide +kernel
theorem dX0_add_21 : decode cX0_add 21 = .ok (.aload_n 1, 1) := by decide +kernel
theorem dX0_add_22 : decode cX0_add 22 = .ok (.aastore, 1) := by decide +kernel
theorem dX0_add_23 : decode cX0_add 23 = .ok (.aload_n 0, 1) := by decide +kernel
theorem dX0_add_24 : decode cX0_add 24 = .ok (.dup, 1) := by decide +kernel
theorem dX0_add_25 : decode cX0_add 25 = .ok (.getfield 39, 3) := by decide +kernel
theorem dX0_add_28 : decode cX0_add 28 = .ok (.iconst 1, 1) := by decide +kernel
theorem dX0_add_29 : decode cX0_add 29 = .ok (.iadd, 1) := by decide +kernel
theorem dX0_add_30 : decode cX0_add 30 = .ok (.putfield 39, 3) := by decide +kernel
theorem dX0_add_33 : decode cX0_add 33 = .ok (.aload_n 0, 1) := by decide +kernel
theorem dX0_add_34 : decode cX0_add 34 = .ok (.getfield 39, 3) := by decide +kernel
theorem dX0_add_37 : decode cX0_add 37 = .ok (.iconst 1, 1) := by decide +kernel
theorem dX0_add_38 : decode cX0_add 38 = .ok (.isub, 1) := by decide +kernel
theorem dX0_add_39 : decode cX0_add 39 = .ok (.ireturn, 1) := by decide +kernel
theorem dX0_countOpen_0 : decode cX0_countOpen 0 = .ok (.iconst 0, 1) := by decide +kernel
theorem dX0_countOpen_1 : decode cX0_countOpen 1 = .ok (.istore_n 1, 1) := by decide +kernel
theorem dX0_countOpen_2 : decode cX0_countOpen 2 = .ok (.iconst 0, 1) := by decide +kernel
theorem dX0_countOpen_3 : decode cX0_countOpen 3 = .ok (.istore_n 2, 1) := by decide +kernel
theorem dX0_countOpen_4 : decode cX0_countOpen 4 = .ok (.iload_n 2, 1) := by decide +kernel
theorem dX0_countOpen_5 : decode cX0_countOpen 5 = .ok (.aload_n 0, 1) := by decide +kernel
theorem dX0_countOpen_6 : decode cX0_countOpen 6 = .ok (.getfield 39, 3) := by decide +kernel
theorem dX0_countOpen_9 : decode cX0_countOpen 9 = .ok (.if_icmp .ge 32, 3) := by decide +kernel
theorem dX0_countOpen_12 : decode cX0_countOpen 12 = .ok (.iload_n 1, 1) := by decide +kernel
theorem dX0_countOpen_13 : decode cX0_countOpen 13 = .ok (.aload_n 0, 1) := by decide +kernel
theorem dX0_countOpen_14 : decode cX0_countOpen 14 = .ok (.getfield 13, 3) := by decide +kernel
theorem dX0_countOpen_17 : decode cX0_countOpen 17 = .ok (.iload_n 2, 1) := by decide +kernel
theorem dX0_countOpen_18 : decode cX0_countOpen 18 = .ok (.aaload, 1) := by decide +kernel
theorem dX0_countOpen_19 : decode cX0_countOpen 19 = .ok (.getfield 47, 3) := by decide +kernel
theorem dX0_countOpen_22 : decode cX0_countOpen 22 = .ok (.ifCond .ne 7, 3) := by decide +kernel
theorem dX0_countOpen_25 : decode cX0_countOpen 25 = .ok (.iconst 1, 1) := by decide +kernel
theorem dX0_countOpen_26 : decode cX0_countOpen 26 = .ok (.goto 4, 3) := by decide +kernel
theorem dX0_countOpen_29 : decode cX0_countOpen 29 = .ok (.iconst 0, 1) := by decide +kernel
theorem dX0_countOpen_30 : decode cX0_countOpen 30 = .ok (.invokestatic 50, 3) := by decide +kernel
theorem dX0_countOpen_33 : decode cX0_countOpen 33 = .ok (.iadd, 1) := by decide +kernel
theorem dX0_countOpen_34 : decode cX0_countOpen 34 = .ok (.istore_n 1, 1) := by decide +kernel
theorem dX0_countOpen_35 : decode cX0_countOpen 35 = .ok (.iinc 2 1, 3) := by decide +kernel
theorem dX0_countOpen_38 : decode cX0_countOpen 38 = .ok (.goto (-34), 3) := by decide +kernel
theorem dX0_countOpen_41 : decode cX0_countOpen 41 = .ok (.iload_n 1, 1) := by decide +kernel
theorem dX0_countOpen_42 : decode cX0_countOpen 42 = .ok (.ireturn, 1) := by decide +kernel
theorem dX0_sumUp_0 : decode cX0_sumUp 0 = .ok (.iconst 0, 1) := by decide +kernel
theorem dX0_sumUp_1 : decode cX0_sumUp 1 = .ok (.istore_n 1, 1) := by decide +kernel
theorem dX0_sumUp_2 : decode cX0_sumUp 2 = .ok (.iload_n 1, 1) := by decide +kernel
theorem dX0_sumUp_3 : decode cX0_sumUp 3 = .ok (.bipush 6, 2) := by decide +kernel
theorem dX0_sumUp_5 : decode cX0_sumUp 5 = .ok (.if_icmp .ge 32, 3) := by decide +kernel
theorem dX0_sumUp_8 : decode cX0_sumUp 8 = .ok (.iconst 0, 1) := by decide +kernel
theorem dX0_sumUp_9 : decode cX0_sumUp 9 = .ok (.istore_n 2, 1) := by decide +kernel
theorem dX0_sumUp_10 : decode cX0_sumUp 10 = .ok (.iload_n 2, 1) := by decide +kernel
theorem dX0_sumUp_11 : decode cX0_sumUp 11 = .ok (.bipush 6, 2) := by decide +kernel
theorem dX0_sumUp_13 : decode cX0_sumUp 13 = .ok (.if_icmp .ge 18, 3) := by decide +kernel
theorem dX0_sumUp_16 : decode cX0_sumUp 16 = .ok (.aload_n 0, 1) := by decide +kernel
theorem dX0_sumUp_17 : decode cX0_sumUp 17 = .ok (.getfield 26, 3) := by decide +kernel
theorem dX0_sumUp_20 : decode cX0_sumUp 20 = .ok (.iload_n 1, 1) := by decide +kernel
theorem dX0_sumUp_21 : decode cX0_sumUp 21 = .ok (.aaload, 1) := by decide +kernel
theorem dX0_sumUp_22 : decode cX0_sumUp 22 = .ok (.iload_n 2, 1) := by decide +kernel
theorem dX0_sumUp_23 : decode cX0_sumUp 23 = .ok (.iconst 0, 1) := by decide +kernel
theorem dX0_sumUp_24 : decode cX0_sumUp 24 = .ok (.iastore, 1) := by decide +kernel
theorem dX0_sumUp_25 : decode cX0_sumUp 25 = .ok (.iinc 2 1, 3) := by decide +kernel
theorem dX0_sumUp_28 : decode cX0_sumUp 28 = .ok (.goto (-18), 3) := by decide +kernel
theorem dX0_sumUp_31 : decode cX0_sumUp 31 = .ok (.iinc 1 1, 3) := by decide +kernel
theorem dX0_sumUp_34 : decode cX0_sumUp 34 = .ok (.goto (-32), 3) := by decide +kernel
theorem dX0_sumUp_37 : decode cX0_sumUp 37 = .ok (.iconst 0, 1) := by decide +kernel
theorem dX0_sumUp_38 : decode cX0_sumUp 38 = .ok (.istore_n 1, 1) := by decide +kernel
theorem dX0_sumUp_39 : decode cX0_sumUp 39 = .ok (.iload_n 1, 1) := by decide +kernel
theorem dX0_sumUp_40 : decode cX0_sumUp 40 = .ok (.aload_n 0, 1) := by decide +kernel
theorem dX0_sumUp_41 : decode cX0_sumUp 41 = .ok (.getfield 39, 3) := by decide +kernel
theorem dX0_sumUp_44 : decode cX0_sumUp 44 = .ok (.if_icmp .ge 50, 3) := by decide +kernel
theorem dX0_sumUp_47 : decode cX0_sumUp 47 = .ok (.aload_n 0, 1) := by decide +kernel
theorem dX0_sumUp_48 : decode cX0_sumUp 48 = .ok (.getfield 13, 3) := by decide +kernel
theorem dX0_sumUp_51 : decode cX0_sumUp 51 = .ok (.iload_n 1, 1) := by decide +kernel
theorem dX0_sumUp_52 : decode cX0_sumUp 52 = .ok (.aaload, 1) := by decide +kernel
theorem dX0_sumUp_53 : decode cX0_sumUp 53 = .ok (.astore_n 2, 1) := by decide +kernel
theorem dX0_sumUp_54 : decode cX0_sumUp 54 = .ok (.aload_n 0, 1) := by decide +kernel
theorem dX0_sumUp_55 : decode cX0_sumUp 55 = .ok (.aload_n 2, 1) := by decide +kernel
theorem dX0_sumUp_56 : decode cX0_sumUp 56 = .ok (.getfield 54, 3) := by decide +kernel
theorem dX0_sumUp_59 : decode cX0_sumUp 59 = .ok (.aload_n 2, 1) := by decide +kernel
theorem dX0_sumUp_60 : decode cX0_sumUp 60 = .ok (.aload_n 2, 1) := by decide +kernel
theorem dX0_sumUp_61 : decode cX0_sumUp 61 = .ok (.getfield 57, 3) := by decide +kernel
theorem dX0_sumUp_64 : decode cX0_sumUp 64 = .ok (.aload_n 2, 1) := by decide +kernel
theorem dX0_sumUp_65 : decode cX0_sumUp 65 = .ok (.getfield 60, 3) := by decide +kernel
theorem dX0_sumUp_68 : decode cX0_sumUp 68 = .ok (.invokevirtual 63, 3) := by decide +kernel
theorem dX0_sumUp_71 : decode cX0_sumUp 71 = .ok (.aload_n 0, 1) := by decide +kernel
theorem dX0_sumUp_72 : decode cX0_sumUp 72 = .ok (.aload_n 2, 1) := by decide +kernel
theorem dX0_sumUp_73 : decode cX0_sumUp 73 = .ok (.getfield 67, 3) := by decide +kernel
theorem dX0_sumUp_76 : decode cX0_sumUp 76 = .ok (.aload_n 2, 1) := by decide +kernel
theorem dX0_sumUp_77 : decode cX0_sumUp 77 = .ok (.aload_n 2, 1) := by decide +kernel
theorem dX0_sumUp_78 : decode cX0_sumUp 78 = .ok (.getfield 60, 3) := by decide +kernel
theorem dX0_sumUp_81 : decode cX0_sumUp 81 = .ok (.aload_n 2, 1) := by decide +kernel
theorem dX0_sumUp_82 : decode cX0_sumUp 82 = .ok (.getfield 57, 3) := by decide +kernel
theorem dX0_sumUp_85 : decode cX0_sumUp 85 = .ok (.invokevirtual 63, 3) := by decide +kernel
theorem dX0_sumUp_88 : decode cX0_sumUp 88 = .ok (.iinc 1 1, 3) := by decide +kernel
theorem dX0_sumUp_91 : decode cX0_sumUp 91 = .ok (.goto (-52), 3) := by decide +kernel
theorem dX0_sumUp_94 : decode cX0_sumUp 94 = .ok (.return_, 1) := by decide +kernel
theorem dX0_addTo_0 : decode cX0_addTo 0 = .ok (.aload_n 0, 1) := by decide +kernel
theorem dX0_addTo_1 : decode cX0_addTo 1 = .ok (.getfield 26, 3) := by decide +kernel
theorem dX0_addTo_4 : decode cX0_addTo 4 = .ok (.iconst 0, 1) := by decide +kernel
theorem dX0_addTo_5 : decode cX0_addTo 5 = .ok (.aaload, 1) := by decide +kernel
theorem dX0_addTo_6 : decode cX0_addTo 6 = .ok (.iload_n 1, 1) := by decide +kernel
theorem dX0_addTo_7 : decode cX0_addTo 7 = .ok (.dup2, 1) := by decide +kernel
theorem dX0_addTo_8 : decode cX0_addTo 8 = .ok (.iaload, 1) := by decide +kernel
theorem dX0_addTo_9 : decode cX0_addTo 9 = .ok (.iconst 1, 1) := by decide +kernel
theorem dX0_addTo_10 : decode cX0_addTo 10 = .ok (.iadd, 1) := by decide +kernel
theorem dX0_addTo_11 : decode cX0_addTo 11 = .ok (.iastore, 1) := by decide +kernel
theorem dX0_addTo_12 : decode cX0_addTo 12 = .ok (.aload_n 0, 1) := by decide +kernel
theorem dX0_addTo_13 : decode cX0_addTo 13 = .ok (.getfield 26, 3) := by decide +kernel
theorem dX0_addTo_16 : decode cX0_addTo 16 = .ok (.iconst 4, 1) := by decide +kernel
theorem dX0_addTo_17 : decode cX0_addTo 17 = .ok (.aaload, 1) := by decide +kernel
theorem dX0_addTo_18 : decode cX0_addTo 18 = .ok (.iload_n 1, 1) := by decide +kernel
theorem dX0_addTo_19 : decode cX0_addTo 19 = .ok (.dup2, 1) := by decide +kernel
theorem dX0_addTo_20 : decode cX0_addTo 20 = .ok (.iaload, 1) := by decide +kernel
theorem dX0_addTo_21 : decode cX0_addTo 21 = .ok (.iload_n 3, 1) := by decide +kernel
theorem dX0_addTo_22 : decode cX0_addTo 22 = .ok (.iadd, 1) := by decide +kernel
theorem dX0_addTo_23 : decode cX0_addTo 23 = .ok (.iastore, 1) := by decide +kernel
theorem dX0_addTo_24 : decode cX0_addTo 24 = .ok (.aload_n 0, 1) := by decide +kernel
theorem dX0_addTo_25 : decode cX0_addTo 25 = .ok (.getfield 26, 3) := by decide +kernel
theorem dX0_addTo_28 : decode cX0_addTo 28 = .ok (.iconst 5, 1) := by decide +kernel
theorem dX0_addTo_29 : decode cX0_addTo 29 = .ok (.aaload, 1) := by decide +kernel
theorem dX0_addTo_30 : decode cX0_addTo 30 = .ok (.iload_n 1, 1) := by decide +kernel
theorem dX0_addTo_31 : decode cX0_addTo 31 = .ok (.dup2, 1) := by decide +kernel
theorem dX0_addTo_32 : decode cX0_addTo 32 = .ok (.iaload, 1) := by decide +kernel
theorem dX0_addTo_33 : decode cX0_addTo 33 = .ok (.iload 4, 2) := by decide +kernel
theorem dX0_addTo_35 : decode cX0_addTo 35 = .ok (.iadd, 1) := by decide +kernel
theorem dX0_addTo_36 : decode cX0_addTo 36 = .ok (.iastore, 1) := by decide +kernel
theorem dX0_addTo_37 : decode cX0_addTo 37 = .ok (.aload_n 2, 1) := by decide +kernel
theorem dX0_addTo_38 : decode cX0_addTo 38 = .ok (.getfield 47, 3) := by decide +kernel
theorem dX0_addTo_41 : decode cX0_addTo 41 = .ok (.ifCond .eq 42, 3) := by decide +kernel
theorem dX0_addTo_44 : decode cX0_addTo 44 = .ok (.aload_n 2, 1) := by decide +kernel
theorem dX0_addTo_45 : decode cX0_addTo 45 = .ok (.iload_n 1, 1) := by decide +kernel
theorem dX0_addTo_46 : decode cX0_addTo 46 = .ok (.invokevirtual 70, 3) := by decide +kernel
theorem dX0_addTo_49 : decode cX0_addTo 49 = .ok (.istore 5, 2) := by decide +kernel
theorem dX0_addTo_51 : decode cX0_addTo 51 = .ok (.aload_n 0, 1) := by decide +kernel
theorem dX0_addTo_52 : decode cX0_addTo 52 = .ok (.getfield 26, 3) := by decide +kernel
theorem dX0_addTo_55 : decode cX0_addTo 55 = .ok (.iload 5, 2) := by decide +kernel
theorem dX0_addTo_57 : decode cX0_addTo 57 = .ok (.iconst 2, 1) := by decide +kernel
theorem dX0_addTo_58 : decode cX0_addTo 58 = .ok (.if_icmp .ne 7, 3) := by decide +kernel
theorem dX0_addTo_61 : decode cX0_addTo 61 = .ok (.iconst 1, 1) := by decide +kernel
theorem dX0_addTo_62 : decode cX0_addTo 62 = .ok (.goto 14, 3) := by decide +kernel
theorem dX0_addTo_65 : decode cX0_addTo 65 = .ok (.iload 5, 2) := by decide +kernel
theorem dX0_addTo_67 : decode cX0_addTo 67 = .ok (.iconst 1, 1) := by decide +kernel
theorem dX0_addTo_68 : decode cX0_addTo 68 = .ok (.if_icmp .ne 7, 3) := by decide +kernel
theorem dX0_addTo_71 : decode cX0_addTo 71 = .ok (.iconst 2, 1) := by decide +kernel
theorem dX0_addTo_72 : decode cX0_addTo 72 = .ok (.goto 4, 3) := by decide +kernel
theorem dX0_addTo_75 : decode cX0_addTo 75 = .ok (.iconst 3, 1) := by decide +kernel
theorem dX0_addTo_76 : decode cX0_addTo 76 = .ok (.aaload, 1) := by decide +kernel
theorem dX0_addTo_77 : decode cX0_addTo 77 = .ok (.iload_n 1, 1) := by decide +kernel
theorem dX0_addTo_78 : decode cX0_addTo 78 = .ok (.dup2, 1) := by decide +kernel
theorem dX0_addTo_79 : decode cX0_addTo 79 = .ok (.iaload, 1) := by decide +kernel
theorem dX0_addTo_80 : decode cX0_addTo 80 = .ok (.iconst 1, 1) := by decide +kernel
theorem dX0_addTo_81 : decode cX0_addTo 81 = .ok (.iadd, 1) := by decide +kernel
theorem dX0_addTo_82 : decode cX0_addTo 82 = .ok (.iastore, 1) := by decide +kernel
theorem dX0_addTo_83 : decode cX0_addTo 83 = .ok (.return_, 1) := by decide +kernel
theorem dX0_table_0 : decode cX0_table 0 = .ok (.iconst 2, 1) := by decide +kernel
theorem dX0_table_1 : decode cX0_table 1 = .ok (.aload_n 0, 1) := by decide +kernel
theorem dX0_table_2 : decode cX0_table 2 = .ok (.getfield 26, 3) := by decide +kernel
theorem dX0_table_5 : decode cX0_table 5 = .ok (.iconst 1, 1) := by decide +kernel
theorem dX0_table_6 : decode cX0_table 6 = .ok (.aaload, 1) := by decide +kernel
theorem dX0_table_7 : decode cX0_table 7 = .ok (.iload_n 1, 1) := by decide +kernel
theorem dX0_table_8 : decode cX0_table 8 = .ok (.iaload, 1) := by decide +kernel
theorem dX0_table_9 : decode cX0_table 9 = .ok (.imul, 1) := by decide +kernel
theorem dX0_table_10 : decode cX0_table 10 = .ok (.aload_n 0, 1) := by decide +kernel
theorem dX0_table_11 : decode cX0_table 11 = .ok (.getfield 26, 3) := by decide +kernel
theorem dX0_table_14 : decode cX0_table 14 = .ok (.iconst 2, 1) := by decide +kernel
theorem dX0_table_15 : decode cX0_table 15 = .ok (.aaload, 1) := by decide +kernel
theorem dX0_table_16 : decode cX0_table 16 = .ok (.iload_n 1, 1) := by decide +kernel
theorem dX0_table_17 : decode cX0_table 17 = .ok (.iaload, 1) := by decide +kernel
theorem dX0_table_18 : decode cX0_table 18 = .ok (.iadd, 1) := by decide +kernel
theorem dX0_table_19 : decode cX0_table 19 = .ok (.ireturn, 1) := by decide +kernel
theorem dX0_place_0 : decode cX0_place 0 = .ok (.iconst 0, 1) := by decide +kernel
theorem dX0_place_1 : decode cX0_place 1 = .ok (.istore_n 2, 1) := by decide +kernel
theorem dX0_place_2 : decode cX0_place 2 = .ok (.iload_n 2, 1) := by decide +kernel
theorem dX0_place_3 : decode cX0_place 3 = .ok (.aload_n 0, 1) := by decide +kernel
theorem dX0_place_4 : decode cX0_place 4 = .ok (.getfield 20, 3) := by decide +kernel
theorem dX0_place_7 : decode cX0_place 7 = .ok (.getfield 74, 3) := by decide +kernel
theorem dX0_place_10 : decode cX0_place 10 = .ok (.if_icmp .ge 37, 3) := by decide +kernel
theorem dX0_place_13 : decode cX0_place 13 = .ok (.iconst 0, 1) := by decide +kernel
theorem dX0_place_14 : decode cX0_place 14 = .ok (.istore_n 3, 1) := by decide +kernel
theorem dX0_place_15 : decode cX0_place 15 = .ok (.iload_n 3, 1) := by decide +kernel
theorem dX0_place_16 : decode cX0_place 16 = .ok (.bipush 6, 2) := by decide +kernel
theorem dX0_place_18 : decode cX0_place 18 = .ok (.if_icmp .ge 23, 3) := by decide +kernel
theorem dX0_place_21 : decode cX0_place 21 = .ok (.aload_n 0, 1) := by decide +kernel
theorem dX0_place_22 : decode cX0_place 22 = .ok (.getfield 29, 3) := by decide +kernel
theorem dX0_place_25 : decode cX0_place 25 = .ok (.iload_n 2, 1) := by decide +kernel
theorem dX0_place_26 : decode cX0_place 26 = .ok (.aaload, 1) := by decide +kernel
theorem dX0_place_27 : decode cX0_place 27 = .ok (.iload_n 3, 1) := by decide +kernel
theorem dX0_place_28 : decode cX0_place 28 = .ok (.aload_n 0, 1) := by decide +kernel
theorem dX0_place_29 : decode cX0_place 29 = .ok (.iload_n 3, 1) := by decide +kernel
theorem dX0_place_30 : decode cX0_place 30 = .ok (.iload_n 2, 1) := by decide +kernel
theorem dX0_place_31 : decode cX0_place 31 = .ok (.invokevirtual 77, 3) := by decide +kernel
theorem dX0_place_34 : decode cX0_place 34 = .ok (.iastore, 1) := by decide +kernel
theorem dX0_place_35 : decode cX0_place 35 = .ok (.iinc 3 1, 3) := by decide +kernel
theorem dX0_place_38 : decode cX0_place 38 = .ok (.goto (-23), 3) := by decide +kernel
theorem dX0_place_41 : decode cX0_place 41 = .ok (.iinc 2 1, 3) := by decide +kernel
theorem dX0_place_44 : decode cX0_place 44 = .ok (.goto (-42), 3) := by decide +kernel
theorem dX0_place_47 : decode cX0_place 47 = .ok (.iconst 1, 1) := by decide +kernel
theorem dX0_place_48 : decode cX0_place 48 = .ok (.istore_n 2, 1) := by decide +kernel
theorem dX0_place_49 : decode cX0_place 49 = .ok (.iconst 0, 1) := by decide +kernel
theorem dX0_place_50 : decode cX0_place 50 = .ok (.istore_n 3, 1) := by decide +kernel
theorem dX0_place_51 : decode cX0_place 51 = .ok (.iload_n 3, 1) := by decide +kernel
theorem dX0_place_52 : decode cX0_place 52 = .ok (.bipush 6, 2) := by decide +kernel
theorem dX0_place_54 : decode cX0_place 54 = .ok (.if_icmp .ge 21, 3) := by decide +kernel
theorem dX0_place_57 : decode cX0_place 57 = .ok (.iload_n 2, 1) := by decide +kernel
theorem dX0_place_58 : decode cX0_place 58 = .ok (.aload_n 0, 1) := by decide +kernel
theorem dX0_place_59 : decode cX0_place 59 = .ok (.iload_n 3, 1) := by decide +kernel
theorem dX0_place_60 : decode cX0_place 60 = .ok (.iload_n 1, 1) := by decide +kernel
theorem dX0_place_61 : decode cX0_place 61 = .ok (.invokevirtual 81, 3) := by decide +kernel
theorem dX0_place_64 : decode cX0_place 64 = .ok (.invokestatic 50, 3) := by decide +kernel
theorem dX0_place_67 : decode cX0_place 67 = .ok (.iadd, 1) := by decide +kernel
theorem dX0_place_68 : decode cX0_place 68 = .ok (.istore_n 2, 1) := by decide +kernel
theorem dX0_place_69 : decode cX0_place 69 = .ok (.iinc 3 1, 3) := by decide +kernel
theorem dX0_place_72 : decode cX0_place 72 = .ok (.goto (-21), 3) := by decide +kernel
theorem dX0_place_75 : decode cX0_place 75 = .ok (.iload_n 2, 1) := by decide +kernel
theorem dX0_place_76 : decode cX0_place 76 = .ok (.ireturn, 1) := by decide +kernel
theorem dX0_keyOf_0 : decode cX0_keyOf 0 = .ok (.aload_n 0, 1) := by decide +kernel
theorem dX0_keyOf_1 : decode cX0_keyOf 1 = .ok (.getfield 20, 3) := by decide +kernel
theorem dX0_keyOf_4 : decode cX0_keyOf 4 = .ok (.getfield 85, 3) := by decide +kernel
theorem dX0_keyOf_7 : decode cX0_keyOf 7 = .ok (.iload_n 2, 1) := by decide +kernel
theorem dX0_keyOf_8 : decode cX0_keyOf 8 = .ok (.iaload, 1) := by decide +kernel
theorem dX0_keyOf_9 : decode cX0_keyOf 9 = .ok (.tableswitch 73 0 3 #[31, 37, 46, 64], 31) := by decide +kernel
theorem dX0_keyOf_40 : decode cX0_keyOf 40 = .ok (.aload_n 0, 1) := by decide +kernel
theorem dX0_keyOf_41 : decode cX0_keyOf 41 = .ok (.iload_n 1, 1) := by decide +kernel
theorem dX0_keyOf_42 : decode cX0_keyOf 42 = .ok (.invokevirtual 88, 3) := by decide +kernel
theorem dX0_keyOf_45 : decode cX0_keyOf 45 = .ok (.ireturn, 1) := by decide +kernel
theorem dX0_keyOf_46 : decode cX0_keyOf 46 = .ok (.aload_n 0, 1) := by decide +kernel
theorem dX0_keyOf_47 : decode cX0_keyOf 47 = .ok (.getfield 26, 3) := by decide +kernel
theorem dX0_keyOf_50 : decode cX0_keyOf 50 = .ok (.iconst 1, 1) := by decide +kernel
theorem dX0_keyOf_51 : decode cX0_keyOf 51 = .ok (.aaload, 1) := by decide +kernel
theorem dX0_keyOf_52 : decode cX0_keyOf 52 = .ok (.iload_n 1, 1) := by decide +kernel
theorem dX0_keyOf_53 : decode cX0_keyOf 53 = .ok (.iaload, 1) := by decide +kernel
theorem dX0_keyOf_54 : decode cX0_keyOf 54 = .ok (.ireturn, 1) := by decide +kernel
theorem dX0_keyOf_55 : decode cX0_keyOf 55 = .ok (.aload_n 0, 1) := by decide +kernel
theorem dX0_keyOf_56 : decode cX0_keyOf 56 = .ok (.getfield 26, 3) := by decide +kernel
theorem dX0_keyOf_59 : decode cX0_keyOf 59 = .ok (.iconst 4, 1) := by decide +kernel
theorem dX0_keyOf_60 : decode cX0_keyOf 60 = .ok (.aaload, 1) := by decide +kernel
theorem dX0_keyOf_61 : decode cX0_keyOf 61 = .ok (.iload_n 1, 1) := by decide +kernel
theorem dX0_keyOf_62 : decode cX0_keyOf 62 = .ok (.iaload, 1) := by decide +kernel
theorem dX0_keyOf_63 : decode cX0_keyOf 63 = .ok (.aload_n 0, 1) := by decide +kernel
theorem dX0_keyOf_64 : decode cX0_keyOf 64 = .ok (.getfield 26, 3) := by decide +kernel
theorem dX0_keyOf_67 : decode cX0_keyOf 67 = .ok (.iconst 5, 1) := by decide +kernel
theorem dX0_keyOf_68 : decode cX0_keyOf 68 = .ok (.aaload, 1) := by decide +kernel
theorem dX0_keyOf_69 : decode cX0_keyOf 69 = .ok (.iload_n 1, 1) := by decide +kernel
theorem dX0_keyOf_70 : decode cX0_keyOf 70 = .ok (.iaload, 1) := by decide +kernel
theorem dX0_keyOf_71 : decode cX0_keyOf 71 = .ok (.isub, 1) := by decide +kernel
theorem dX0_keyOf_72 : decode cX0_keyOf 72 = .ok (.ireturn, 1) := by decide +kernel
theorem dX0_keyOf_73 : decode cX0_keyOf 73 = .ok (.aload_n 0, 1) := by decide +kernel
theorem dX0_keyOf_74 : decode cX0_keyOf 74 = .ok (.getfield 26, 3) := by decide +kernel
theorem dX0_keyOf_77 : decode cX0_keyOf 77 = .ok (.iconst 4, 1) := by decide +kernel
theorem dX0_keyOf_78 : decode cX0_keyOf 78 = .ok (.aaload, 1) := by decide +kernel
theorem dX0_keyOf_79 : decode cX0_keyOf 79 = .ok (.iload_n 1, 1) := by decide +kernel
theorem dX0_keyOf_80 : decode cX0_keyOf 80 = .ok (.iaload, 1) := by decide +kernel
theorem dX0_keyOf_81 : decode cX0_keyOf 81 = .ok (.ireturn, 1) := by decide +kernel
theorem dX0_keyOf_82 : decode cX0_keyOf 82 = .ok (.aload_n 0, 1) := by decide +kernel
theorem dX0_keyOf_83 : decode cX0_keyOf 83 = .ok (.iload_n 1, 1) := by decide +kernel
theorem dX0_keyOf_84 : decode cX0_keyOf 84 = .ok (.iload_n 2, 1) := by decide +kernel
theorem dX0_keyOf_85 : decode cX0_keyOf 85 = .ok (.invokevirtual 91, 3) := by decide +kernel
theorem dX0_keyOf_88 : decode cX0_keyOf 88 = .ok (.ireturn, 1) := by decide +kernel
theorem dX0_tableAmongLikes_0 : decode cX0_tableAmongLikes 0 = .ok (.iconst 0, 1) := by decide +kernel
theorem dX0_tableAmongLikes_1 : decode cX0_tableAmongLikes 1 = .ok (.istore_n 3, 1) := by decide +kernel
theorem dX0_tableAmongLikes_2 : decode cX0_tableAmongLikes 2 = .ok (.iconst 0, 1) := by decide +kernel
theorem dX0_tableAmongLikes_3 : decode cX0_tableAmongLikes 3 = .ok (.istore 4, 2) := by decide +kernel
theorem dX0_tableAmongLikes_5 : decode cX0_tableAmongLikes 5 = .ok (.iload 4, 2) := by decide +kernel
theorem dX0_tableAmongLikes_7 : decode cX0_tableAmongLikes 7 = .ok (.aload_n 0, 1) := by decide +kernel
theorem dX0_tableAmongLikes_8 : decode cX0_tableAmongLikes 8 = .ok (.getfield 39, 3) := by decide +kernel
theorem dX0_tableAmongLikes_11 : decode cX0_tableAmongLikes 11 = .ok (.if_icmp .ge 54, 3) := by decide +kernel
theorem dX0_tableAmongLikes_14 : decode cX0_tableAmongLikes 14 = .ok (.aload_n 0, 1) := by decide +kernel
theorem dX0_tableAmongLikes_15 : decode cX0_tableAmongLikes 15 = .ok (.getfield 13, 3) := by decide +kernel
theorem dX0_tableAmongLikes_18 : decode cX0_tableAmongLikes 18 = .ok (.iload 4, 2) := by decide +kernel
theorem dX0_tableAmongLikes_20 : decode cX0_tableAmongLikes 20 = .ok (.aaload, 1) := by decide +kernel
theorem dX0_tableAmongLikes_21 : decode cX0_tableAmongLikes 21 = .ok (.astore 5, 2) := by decide +kernel
theorem dX0_tableAmongLikes_23 : decode cX0_tableAmongLikes 23 = .ok (.aload 5, 2) := by decide +kernel
theorem dX0_tableAmongLikes_25 : decode cX0_tableAmongLikes 25 = .ok (.iload_n 1, 1) := by decide +kernel
theorem dX0_tableAmongLikes_26 : decode cX0_tableAmongLikes 26 = .ok (.invokevirtual 94, 3) := by decide +kernel
theorem dX0_tableAmongLikes_29 : decode cX0_tableAmongLikes 29 = .ok (.ifCond .eq 30, 3) := by decide +kernel
theorem dX0_tableAmongLikes_32 : decode cX0_tableAmongLikes 32 = .ok (.aload_n 0, 1) := by decide +kernel
theorem dX0_tableAmongLikes_33 : decode cX0_tableAmongLikes 33 = .ok (.aload 5, 2) := by decide +kernel
theorem dX0_tableAmongLikes_35 : decode cX0_tableAmongLikes 35 = .ok (.getfield 54, 3) := by decide +kernel
theorem dX0_tableAmongLikes_38 : decode cX0_tableAmongLikes 38 = .ok (.aload 5, 2) := by decide +kernel
theorem dX0_tableAmongLikes_40 : decode cX0_tableAmongLikes 40 = .ok (.getfield 67, 3) := by decide +kernel
theorem dX0_tableAmongLikes_43 : decode cX0_tableAmongLikes 43 = .ok (.iload_n 2, 1) := by decide +kernel
theorem dX0_tableAmongLikes_44 : decode cX0_tableAmongLikes 44 = .ok (.invokevirtual 98, 3) := by decide +kernel
theorem dX0_tableAmongLikes_47 : decode cX0_tableAmongLikes 47 = .ok (.ifCond .eq 12, 3) := by decide +kernel
theorem dX0_tableAmongLikes_50 : decode cX0_tableAmongLikes 50 = .ok (.iload_n 3, 1) := by decide +kernel
theorem dX0_tableAmongLikes_51 : decode cX0_tableAmongLikes 51 = .ok (.aload 5, 2) := by decide +kernel
theorem dX0_tableAmongLikes_53 : decode cX0_tableAmongLikes 53 = .ok (.iload_n 1, 1) := by decide +kernel
theorem dX0_tableAmongLikes_54 : decode cX0_tableAmongLikes 54 = .ok (.invokevirtual 70, 3) := by decide +kernel
theorem dX0_tableAmongLikes_57 : decode cX0_tableAmongLikes 57 = .ok (.iadd, 1) := by decide +kernel
theorem dX0_tableAmongLikes_58 : decode cX0_tableAmongLikes 58 = .ok (.istore_n 3, 1) := by decide +kernel
theorem dX0_tableAmongLikes_59 : decode cX0_tableAmongLikes 59 = .ok (.iinc 4 1, 3) := by decide +kernel
theorem dX0_tableAmongLikes_62 : decode cX0_tableAmongLikes 62 = .ok (.goto (-57), 3) := by decide +kernel
theorem dX0_tableAmongLikes_65 : decode cX0_tableAmongLikes 65 = .ok (.iload_n 3, 1) := by decide +kernel
theorem dX0_tableAmongLikes_66 : decode cX0_tableAmongLikes 66 = .ok (.ireturn, 1) := by decide +kernel
theorem dX0_areAlike_0 : decode cX0_areAlike 0 = .ok (.iconst 0, 1) := by decide +kernel
theorem dX0_areAlike_1 : decode cX0_areAlike 1 = .ok (.istore 4, 2) := by decide +kernel
theorem dX0_areAlike_3 : decode cX0_areAlike 3 = .ok (.iload 4, 2) := by decide +kernel
theorem dX0_areAlike_5 : decode cX0_areAlike 5 = .ok (.iload_n 3, 1) := by decide +kernel
theorem dX0_areAlike_6 : decode cX0_areAlike 6 = .ok (.if_icmp .ge 32, 3) := by decide +kernel
theorem dX0_areAlike_9 : decode cX0_areAlike 9 = .ok (.aload_n 0, 1) := by decide +kernel
theorem dX0_areAlike_10 : decode cX0_areAlike 10 = .ok (.getfield 29, 3) := by decide +kernel
theorem dX0_areAlike_13 : decode cX0_areAlike 13 = .ok (.iload 4, 2) := by decide +kernel
theorem dX0_areAlike_15 : decode cX0_areAlike 15 = .ok (.aaload, 1) := by decide +kernel
theorem dX0_areAlike_16 : decode cX0_areAlike 16 = .ok (.iload_n 1, 1) := by decide +kernel
theorem dX0_areAlike_17 : decode cX0_areAlike 17 = .ok (.iaload, 1) := by decide +kernel
theorem dX0_areAlike_18 : decode cX0_areAlike 18 = .ok (.aload_n 0, 1) := by decide +kernel
theorem dX0_areAlike_19 : decode cX0_areAlike 19 = .ok (.getfield 29, 3) := by decide +kernel
theorem dX0_areAlike_22 : decode cX0_areAlike 22 = .ok (.iload 4, 2) := by decide +kernel
theorem dX0_areAlike_24 : decode cX0_areAlike 24 = .ok (.aaload, 1) := by decide +kernel
theorem dX0_areAlike_25 : decode cX0_areAlike 25 = .ok (.iload_n 2, 1) := by decide +kernel
theorem dX0_areAlike_26 : decode cX0_areAlike 26 = .ok (.iaload, 1) := by decide +kernel
theorem dX0_areAlike_27 : decode cX0_areAlike 27 = .ok (.if_icmp .eq 5, 3) := by decide +kernel
theorem dX0_areAlike_30 : decode cX0_areAlike 30 = .ok (.iconst 0, 1) := by decide +kernel
theorem dX0_areAlike_31 : decode cX0_areAlike 31 = .ok (.ireturn, 1) := by decide +kernel
theorem dX0_areAlike_32 : decode cX0_areAlike 32 = .ok (.iinc 4 1, 3) := by decide +kernel
theorem dX0_areAlike_35 : decode cX0_areAlike 35 = .ok (.goto (-32), 3) := by decide +kernel
theorem dX0_areAlike_38 : decode cX0_areAlike 38 = .ok (.iconst 1, 1) := by decide +kernel
theorem dX0_areAlike_39 : decode cX0_areAlike 39 = .ok (.ireturn, 1) := by decide +kernel
theorem dX0_isAhead_0 : decode cX0_isAhead 0 = .ok (.iconst 0, 1) := by decide +kernel
theorem dX0_isAhead_1 : decode cX0_isAhead 1 = .ok (.istore_n 3, 1) := by decide +kernel
theorem dX0_isAhead_2 : decode cX0_isAhead 2 = .ok (.iload_n 3, 1) := by decide +kernel
theorem dX0_isAhead_3 : decode cX0_isAhead 3 = .ok (.aload_n 0, 1) := by decide +kernel
theorem dX0_isAhead_4 : decode cX0_isAhead 4 = .ok (.getfield 20, 3) := by decide +kernel
theorem dX0_isAhead_7 : decode cX0_isAhead 7 = .ok (.getfield 74, 3) := by decide +kernel
theorem dX0_isAhead_10 : decode cX0_isAhead 10 = .ok (.if_icmp .ge 53, 3) := by decide +kernel
theorem dX0_isAhead_13 : decode cX0_isAhead 13 = .ok (.aload_n 0, 1) := by decide +kernel
theorem dX0_isAhead_14 : decode cX0_isAhead 14 = .ok (.getfield 29, 3) := by decide +kernel
theorem dX0_isAhead_17 : decode cX0_isAhead 17 = .ok (.iload_n 3, 1) := by decide +kernel
theorem dX0_isAhead_18 : decode cX0_isAhead 18 = .ok (.aaload, 1) := by decide +kernel
theorem dX0_isAhead_19 : decode cX0_isAhead 19 = .ok (.iload_n 1, 1) := by decide +kernel
theorem dX0_isAhead_20 : decode cX0_isAhead 20 = .ok (.iaload, 1) := by decide +kernel
theorem dX0_isAhead_21 : decode cX0_isAhead 21 = .ok (.aload_n 0, 1) := by decide +kernel
theorem dX0_isAhead_22 : decode cX0_isAhead 22 = .ok (.getfield 29, 3) := by decide +kernel
theorem dX0_isAhead_25 : decode cX0_isAhead 25 = .ok (.iload_n 3, 1) := by decide +kernel
theorem dX0_isAhead_26 : decode cX0_isAhead 26 = .ok (.aaload, 1) := by decide +kernel
theorem dX0_isAhead_27 : decode cX0_isAhead 27 = .ok (.iload_n 2, 1) := by decide +kernel
theorem dX0_isAhead_28 : decode cX0_isAhead 28 = .ok (.iaload, 1) := by decide +kernel
theorem dX0_isAhead_29 : decode cX0_isAhead 29 = .ok (.if_icmp .eq 28, 3) := by decide +kernel
theorem dX0_isAhead_32 : decode cX0_isAhead 32 = .ok (.aload_n 0, 1) := by decide +kernel
theorem dX0_isAhead_33 : decode cX0_isAhead 33 = .ok (.getfield 29, 3) := by decide +kernel
theorem dX0_isAhead_36 : decode cX0_isAhead 36 = .ok (.iload_n 3, 1) := by decide +kernel
theorem dX0_isAhead_37 : decode cX0_isAhead 37 = .ok (.aaload, 1) := by decide +kernel
theorem dX0_isAhead_38 : decode cX0_isAhead 38 = .ok (.iload_n 1, 1) := by decide +kernel
theorem dX0_isAhead_39 : decode cX0_isAhead 39 = .ok (.iaload, 1) := by decide +kernel
theorem dX0_isAhead_40 : decode cX0_isAhead 40 = .ok (.aload_n 0, 1) := by decide +kernel
theorem dX0_isAhead_41 : decode cX0_isAhead 41 = .ok (.getfield 29, 3) := by decide +kernel
theorem dX0_isAhead_44 : decode cX0_isAhead 44 = .ok (.iload_n 3, 1) := by decide +kernel
theorem dX0_isAhead_45 : decode cX0_isAhead 45 = .ok (.aaload, 1) := by decide +kernel
theorem dX0_isAhead_46 : decode cX0_isAhead 46 = .ok (.iload_n 2, 1) := by decide +kernel
theorem dX0_isAhead_47 : decode cX0_isAhead 47 = .ok (.iaload, 1) := by decide +kernel
theorem dX0_isAhead_48 : decode cX0_isAhead 48 = .ok (.if_icmp .le 7, 3) := by decide +kernel
theorem dX0_isAhead_51 : decode cX0_isAhead 51 = .ok (.iconst 1, 1) := by decide +kernel
theorem dX0_isAhead_52 : decode cX0_isAhead 52 = .ok (.goto 4, 3) := by decide +kernel
theorem dX0_isAhead_55 : decode cX0_isAhead 55 = .ok (.iconst 0, 1) := by decide +kernel
theorem dX0_isAhead_56 : decode cX0_isAhead 56 = .ok (.ireturn, 1) := by decide +kernel
theorem dX0_isAhead_57 : decode cX0_isAhead 57 = .ok (.iinc 3 1, 3) := by decide +kernel
theorem dX0_isAhead_60 : decode cX0_isAhead 60 = .ok (.goto (-58), 3) := by decide +kernel
theorem dX0_isAhead_63 : decode cX0_isAhead 63 = .ok (.iconst 0, 1) := by decide +kernel
theorem dX0_isAhead_64 : decode cX0_isAhead 64 = .ok (.ireturn, 1) := by decide +kernel
theorem dX0_tryAllWays_0 : decode cX0_tryAllWays 0 = .ok (.iconst 0, 1) := by decide +kernel
theorem dX0_tryAllWays_1 : decode cX0_tryAllWays 1 = .ok (.istore_n 2, 1) := by decide +kernel
theorem dX0_tryAllWays_2 : decode cX0_tryAllWays 2 = .ok (.iload_n 2, 1) := by decide +kernel
theorem dX0_tryAllWays_3 : decode cX0_tryAllWays 3 = .ok (.bipush 6, 2) := by decide +kernel
theorem dX0_tryAllWays_5 : decode cX0_tryAllWays 5 = .ok (.if_icmp .ge 20, 3) := by decide +kernel
theorem dX0_tryAllWays_8 : decode cX0_tryAllWays 8 = .ok (.aload_n 0, 1) := by decide +kernel
theorem dX0_tryAllWays_9 : decode cX0_tryAllWays 9 = .ok (.getfield 32, 3) := by decide +kernel
theorem dX0_tryAllWays_12 : decode cX0_tryAllWays 12 = .ok (.iload_n 2, 1) := by decide +kernel
theorem dX0_tryAllWays_13 : decode cX0_tryAllWays 13 = .ok (.aload_n 0, 1) := by decide +kernel
theorem dX0_tryAllWays_14 : decode cX0_tryAllWays 14 = .ok (.iload_n 2, 1) := by decide +kernel
theorem dX0_tryAllWays_15 : decode cX0_tryAllWays 15 = .ok (.invokevirtual 88, 3) := by decide +kernel
theorem dX0_tryAllWays_18 : decode cX0_tryAllWays 18 = .ok (.iastore, 1) := by decide +kernel
theorem dX0_tryAllWays_19 : decode cX0_tryAllWays 19 = .ok (.iinc 2 1, 3) := by decide +kernel
theorem dX0_tryAllWays_22 : decode cX0_tryAllWays 22 = .ok (.goto (-20), 3) := by decide +kernel
theorem dX0_tryAllWays_25 : decode cX0_tryAllWays 25 = .ok (.aload_n 0, 1) := by decide +kernel
theorem dX0_tryAllWays_26 : decode cX0_tryAllWays 26 = .ok (.iconst 0, 1) := by decide +kernel
theorem dX0_tryAllWays_27 : decode cX0_tryAllWays 27 = .ok (.putfield 101, 3) := by decide +kernel
theorem dX0_tryAllWays_30 : decode cX0_tryAllWays 30 = .ok (.iconst 0, 1) := by decide +kernel
theorem dX0_tryAllWays_31 : decode cX0_tryAllWays 31 = .ok (.istore_n 2, 1) := by decide +kernel
theorem dX0_tryAllWays_32 : decode cX0_tryAllWays 32 = .ok (.iload_n 2, 1) := by decide +kernel
theorem dX0_tryAllWays_33 : decode cX0_tryAllWays 33 = .ok (.aload_n 0, 1) := by decide +kernel
theorem dX0_tryAllWays_34 : decode cX0_tryAllWays 34 = .ok (.getfield 39, 3) := by decide +kernel
theorem dX0_tryAllWays_37 : decode cX0_tryAllWays 37 = .ok (.if_icmp .ge 50, 3) := by decide +kernel
theorem dX0_tryAllWays_40 : decode cX0_tryAllWays 40 = .ok (.aload_n 0, 1) := by decide +kernel
theorem dX0_tryAllWays_41 : decode cX0_tryAllWays 41 = .ok (.getfield 13, 3) := by decide +kernel
theorem dX0_tryAllWays_44 : decode cX0_tryAllWays 44 = .ok (.iload_n 2, 1) := by decide +kernel
theorem dX0_tryAllWays_45 : decode cX0_tryAllWays 45 = .ok (.aaload, 1) := by decide +kernel
theorem dX0_tryAllWays_46 : decode cX0_tryAllWays 46 = .ok (.getfield 47, 3) := by decide +kernel
theorem dX0_tryAllWays_49 : decode cX0_tryAllWays 49 = .ok (.ifCond .ne 32, 3) := by decide +kernel
theorem dX0_tryAllWays_52 : decode cX0_tryAllWays 52 = .ok (.aload_n 0, 1) := by decide +kernel
theorem dX0_tryAllWays_53 : decode cX0_tryAllWays 53 = .ok (.getfield 101, 3) := by decide +kernel
theorem dX0_tryAllWays_56 : decode cX0_tryAllWays 56 = .ok (.bipush 6, 2) := by decide +kernel
theorem dX0_tryAllWays_58 : decode cX0_tryAllWays 58 = .ok (.if_icmp .ge 23, 3) := by decide +kernel
theorem dX0_tryAllWays_61 : decode cX0_tryAllWays 61 = .ok (.aload_n 0, 1) := by decide +kernel
theorem dX0_tryAllWays_62 : decode cX0_tryAllWays 62 = .ok (.getfield 36, 3) := by decide +kernel
theorem dX0_tryAllWays_65 : decode cX0_tryAllWays 65 = .ok (.aload_n 0, 1) := by decide +kernel
theorem dX0_tryAllWays_66 : decode cX0_tryAllWays 66 = .ok (.getfield 101, 3) := by decide +kernel
theorem dX0_tryAllWays_69 : decode cX0_tryAllWays 69 = .ok (.iload_n 2, 1) := by decide +kernel
theorem dX0_tryAllWays_70 : decode cX0_tryAllWays 70 = .ok (.iastore, 1) := by decide +kernel
theorem dX0_tryAllWays_71 : decode cX0_tryAllWays 71 = .ok (.aload_n 0, 1) := by decide +kernel
theorem dX0_tryAllWays_72 : decode cX0_tryAllWays 72 = .ok (.dup, 1) := by decide +kernel
theorem dX0_tryAllWays_73 : decode cX0_tryAllWays 73 = .ok (.getfield 101, 3) := by decide +kernel
theorem dX0_tryAllWays_76 : decode cX0_tryAllWays 76 = .ok (.iconst 1, 1) := by decide +kernel
theorem dX0_tryAllWays_77 : decode cX0_tryAllWays 77 = .ok (.iadd, 1) := by decide +kernel
theorem dX0_tryAllWays_78 : decode cX0_tryAllWays 78 = .ok (.putfield 101, 3) := by decide +kernel
theorem dX0_tryAllWays_81 : decode cX0_tryAllWays 81 = .ok (.iinc 2 1, 3) := by decide +kernel
theorem dX0_tryAllWays_84 : decode cX0_tryAllWays 84 = .ok (.goto (-52), 3) := by decide +kernel
theorem dX0_tryAllWays_87 : decode cX0_tryAllWays 87 = .ok (.aload_n 0, 1) := by decide +kernel
theorem dX0_tryAllWays_88 : decode cX0_tryAllWays 88 = .ok (.bipush 6, 2) := by decide +kernel
theorem dX0_tryAllWays_90 : decode cX0_tryAllWays 90 = .ok (.putfield 104, 3) := by decide +kernel
theorem dX0_tryAllWays_93 : decode cX0_tryAllWays 93 = .ok (.aload_n 0, 1) := by decide +kernel
theorem dX0_tryAllWays_94 : decode cX0_tryAllWays 94 = .ok (.iconst 1, 1) := by decide +kernel
theorem dX0_tryAllWays_95 : decode cX0_tryAllWays 95 = .ok (.putfield 107, 3) := by decide +kernel
theorem dX0_tryAllWays_98 : decode cX0_tryAllWays 98 = .ok (.aload_n 0, 1) := by decide +kernel
theorem dX0_tryAllWays_99 : decode cX0_tryAllWays 99 = .ok (.iconst 0, 1) := by decide +kernel
theorem dX0_tryAllWays_100 : decode cX0_tryAllWays 100 = .ok (.iload_n 1, 1) := by decide +kernel
theorem dX0_tryAllWays_101 : decode cX0_tryAllWays 101 = .ok (.invokevirtual 110, 3) := by decide +kernel
theorem dX0_tryAllWays_104 : decode cX0_tryAllWays 104 = .ok (.return_, 1) := by decide +kernel
theorem dX0_tryFrom_0 : decode cX0_tryFrom 0 = .ok (.iload_n 1, 1) := by decide +kernel
theorem dX0_tryFrom_1 : decode cX0_tryFrom 1 = .ok (.aload_n 0, 1) := by decide +kernel
theorem dX0_tryFrom_2 : decode cX0_tryFrom 2 = .ok (.getfield 101, 3) := by decide +kernel
theorem dX0_tryFrom_5 : decode cX0_tryFrom 5 = .ok (.if_icmp .ge 9, 3) := by decide +kernel
theorem dX0_tryFrom_8 : decode cX0_tryFrom 8 = .ok (.iload_n 1, 1) := by decide +kernel
theorem dX0_tryFrom_9 : decode cX0_tryFrom 9 = .ok (.bipush 6, 2) := by decide +kernel
theorem dX0_tryFrom_11 : decode cX0_tryFrom 11 = .ok (.if_icmp .lt 9, 3) := by decide +kernel
theorem dX0_tryFrom_14 : decode cX0_tryFrom 14 = .ok (.aload_n 0, 1) := by decide +kernel
theorem dX0_tryFrom_15 : decode cX0_tryFrom 15 = .ok (.iload_n 2, 1) := by decide +kernel
theorem dX0_tryFrom_16 : decode cX0_tryFrom 16 = .ok (.invokevirtual 114, 3) := by decide +kernel
theorem dX0_tryFrom_19 : decode cX0_tryFrom 19 = .ok (.return_, 1) := by decide +kernel
theorem dX0_tryFrom_20 : decode cX0_tryFrom 20 = .ok (.aload_n 0, 1) := by decide +kernel
theorem dX0_tryFrom_21 : decode cX0_tryFrom 21 = .ok (.getfield 13, 3) := by decide +kernel
theorem dX0_tryFrom_24 : decode cX0_tryFrom 24 = .ok (.aload_n 0, 1) := by decide +kernel
theorem dX0_tryFrom_25 : decode cX0_tryFrom 25 = .ok (.getfield 36, 3) := by decide +kernel
theorem dX0_tryFrom_28 : decode cX0_tryFrom 28 = .ok (.iload_n 1, 1) := by decide +kernel
theorem dX0_tryFrom_29 : decode cX0_tryFrom 29 = .ok (.iaload, 1) := by decide +kernel
theorem dX0_tryFrom_30 : decode cX0_tryFrom 30 = .ok (.aaload, 1) := by decide +kernel
theorem dX0_tryFrom_31 : decode cX0_tryFrom 31 = .ok (.astore_n 3, 1) := by decide +kernel
theorem dX0_tryFrom_32 : decode cX0_tryFrom 32 = .ok (.iconst 0, 1) := by decide +kernel
theorem dX0_tryFrom_33 : decode cX0_tryFrom 33 = .ok (.istore 4, 2) := by decide +kernel
theorem dX0_tryFrom_35 : decode cX0_tryFrom 35 = .ok (.iload 4, 2) := by decide +kernel
theorem dX0_tryFrom_37 : decode cX0_tryFrom 37 = .ok (.iconst 2, 1) := by decide +kernel
theorem dX0_tryFrom_38 : decode cX0_tryFrom 38 = .ok (.if_icmp .gt 77, 3) := by decide +kernel
theorem dX0_tryFrom_41 : decode cX0_tryFrom 41 = .ok (.aload_n 0, 1) := by decide +kernel
theorem dX0_tryFrom_42 : decode cX0_tryFrom 42 = .ok (.getfield 32, 3) := by decide +kernel
theorem dX0_tryFrom_45 : decode cX0_tryFrom 45 = .ok (.aload_n 3, 1) := by decide +kernel
theorem dX0_tryFrom_46 : decode cX0_tryFrom 46 = .ok (.getfield 54, 3) := by decide +kernel
theorem dX0_tryFrom_49 : decode cX0_tryFrom 49 = .ok (.dup2, 1) := by decide +kernel
theorem dX0_tryFrom_50 : decode cX0_tryFrom 50 = .ok (.iaload, 1) := by decide +kernel
theorem dX0_tryFrom_51 : decode cX0_tryFrom 51 = .ok (.iload 4, 2) := by decide +kernel
theorem dX0_tryFrom_53 : decode cX0_tryFrom 53 = .ok (.iadd, 1) := by decide +kernel
theorem dX0_tryFrom_54 : decode cX0_tryFrom 54 = .ok (.iastore, 1) := by decide +kernel
theorem dX0_tryFrom_55 : decode cX0_tryFrom 55 = .ok (.aload_n 0, 1) := by decide +kernel
theorem dX0_tryFrom_56 : decode cX0_tryFrom 56 = .ok (.getfield 32, 3) := by decide +kernel
theorem dX0_tryFrom_59 : decode cX0_tryFrom 59 = .ok (.aload_n 3, 1) := by decide +kernel
theorem dX0_tryFrom_60 : decode cX0_tryFrom 60 = .ok (.getfield 67, 3) := by decide +kernel
theorem dX0_tryFrom_63 : decode cX0_tryFrom 63 = .ok (.dup2, 1) := by decide +kernel
theorem dX0_tryFrom_64 : decode cX0_tryFrom 64 = .ok (.iaload, 1) := by decide +kernel
theorem dX0_tryFrom_65 : decode cX0_tryFrom 65 = .ok (.iconst 2, 1) := by decide +kernel
theorem dX0_tryFrom_66 : decode cX0_tryFrom 66 = .ok (.iload 4, 2) := by decide +kernel
theorem dX0_tryFrom_68 : decode cX0_tryFrom 68 = .ok (.isub, 1) := by decide +kernel
theorem dX0_tryFrom_69 : decode cX0_tryFrom 69 = .ok (.iadd, 1) := by decide +kernel
theorem dX0_tryFrom_70 : decode cX0_tryFrom 70 = .ok (.iastore, 1) := by decide +kernel
theorem dX0_tryFrom_71 : decode cX0_tryFrom 71 = .ok (.aload_n 0, 1) := by decide +kernel
theorem dX0_tryFrom_72 : decode cX0_tryFrom 72 = .ok (.iload_n 1, 1) := by decide +kernel
theorem dX0_tryFrom_73 : decode cX0_tryFrom 73 = .ok (.iconst 1, 1) := by decide +kernel
theorem dX0_tryFrom_74 : decode cX0_tryFrom 74 = .ok (.iadd, 1) := by decide +kernel
theorem dX0_tryFrom_75 : decode cX0_tryFrom 75 = .ok (.iload_n 2, 1) := by decide +kernel
theorem dX0_tryFrom_76 : decode cX0_tryFrom 76 = .ok (.invokevirtual 110, 3) := by decide +kernel
theorem dX0_tryFrom_79 : decode cX0_tryFrom 79 = .ok (.aload_n 0, 1) := by decide +kernel
theorem dX0_tryFrom_80 : decode cX0_tryFrom 80 = .ok (.getfield 32, 3) := by decide +kernel
theorem dX0_tryFrom_83 : decode cX0_tryFrom 83 = .ok (.aload_n 3, 1) := by decide +kernel
theorem dX0_tryFrom_84 : decode cX0_tryFrom 84 = .ok (.getfield 54, 3) := by decide +kernel
theorem dX0_tryFrom_87 : decode cX0_tryFrom 87 = .ok (.dup2, 1) := by decide +kernel
theorem dX0_tryFrom_88 : decode cX0_tryFrom 88 = .ok (.iaload, 1) := by decide +kernel
theorem dX0_tryFrom_89 : decode cX0_tryFrom 89 = .ok (.iload 4, 2) := by decide +kernel
theorem dX0_tryFrom_91 : decode cX0_tryFrom 91 = .ok (.isub, 1) := by decide +kernel
theorem dX0_tryFrom_92 : decode cX0_tryFrom 92 = .ok (.iastore, 1) := by decide +kernel
theorem dX0_tryFrom_93 : decode cX0_tryFrom 93 = .ok (.aload_n 0, 1) := by decide +kernel
theorem dX0_tryFrom_94 : decode cX0_tryFrom 94 = .ok (.getfield 32, 3) := by decide +kernel
theorem dX0_tryFrom_97 : decode cX0_tryFrom 97 = .ok (.aload_n 3, 1) := by decide +kernel
theorem dX0_tryFrom_98 : decode cX0_tryFrom 98 = .ok (.getfield 67, 3) := by decide +kernel
theorem dX0_tryFrom_101 : decode cX0_tryFrom 101 = .ok (.dup2, 1) := by decide +kernel
theorem dX0_tryFrom_102 : decode cX0_tryFrom 102 = .ok (.iaload, 1) := by decide +kernel
theorem dX0_tryFrom_103 : decode cX0_tryFrom 103 = .ok (.iconst 2, 1) := by decide +kernel
theorem dX0_tryFrom_104 : decode cX0_tryFrom 104 = .ok (.iload 4, 2) := by decide +kernel
theorem dX0_tryFrom_106 : decode cX0_tryFrom 106 = .ok (.isub, 1) := by decide +kernel
theorem dX0_tryFrom_107 : decode cX0_tryFrom 107 = .ok (.isub, 1) := by decide +kernel
theorem dX0_tryFrom_108 : decode cX0_tryFrom 108 = .ok (.iastore, 1) := by decide +kernel
theorem dX0_tryFrom_109 : decode cX0_tryFrom 109 = .ok (.iinc 4 1, 3) := by decide +kernel
theorem dX0_tryFrom_112 : decode cX0_tryFrom 112 = .ok (.goto (-77), 3) := by decide +kernel
theorem dX0_tryFrom_115 : decode cX0_tryFrom 115 = .ok (.return_, 1) := by decide +kernel
theorem dX0_notePlace_0 : decode cX0_notePlace 0 = .ok (.iconst 1, 1) := by decide +kernel
theorem dX0_notePlace_1 : decode cX0_notePlace 1 = .ok (.istore_n 2, 1) := by decide +kernel
theorem dX0_notePlace_2 : decode cX0_notePlace 2 = .ok (.iconst 0, 1) := by decide +kernel
theorem dX0_notePlace_3 : decode cX0_notePlace 3 = .ok (.istore_n 3, 1) := by decide +kernel
theorem dX0_notePlace_4 : decode cX0_notePlace 4 = .ok (.iload_n 3, 1) := by decide +kernel
theorem dX0_notePlace_5 : decode cX0_notePlace 5 = .ok (.bipush 6, 2) := by decide +kernel
theorem dX0_notePlace_7 : decode cX0_notePlace 7 = .ok (.if_icmp .ge 35, 3) := by decide +kernel
theorem dX0_notePlace_10 : decode cX0_notePlace 10 = .ok (.iload_n 2, 1) := by decide +kernel
theorem dX0_notePlace_11 : decode cX0_notePlace 11 = .ok (.aload_n 0, 1) := by decide +kernel
theorem dX0_notePlace_12 : decode cX0_notePlace 12 = .ok (.getfield 32, 3) := by decide +kernel
theorem dX0_notePlace_15 : decode cX0_notePlace 15 = .ok (.iload_n 3, 1) := by decide +kernel
theorem dX0_notePlace_16 : decode cX0_notePlace 16 = .ok (.iaload, 1) := by decide +kernel
theorem dX0_notePlace_17 : decode cX0_notePlace 17 = .ok (.aload_n 0, 1) := by decide +kernel
theorem dX0_notePlace_18 : decode cX0_notePlace 18 = .ok (.getfield 32, 3) := by decide +kernel
theorem dX0_notePlace_21 : decode cX0_notePlace 21 = .ok (.iload_n 1, 1) := by decide +kernel
theorem dX0_notePlace_22 : decode cX0_notePlace 22 = .ok (.iaload, 1) := by decide +kernel
theorem dX0_notePlace_23 : decode cX0_notePlace 23 = .ok (.if_icmp .le 7, 3) := by decide +kernel
theorem dX0_notePlace_26 : decode cX0_notePlace 26 = .ok (.iconst 1, 1) := by decide +kernel
theorem dX0_notePlace_27 : decode cX0_notePlace 27 = .ok (.goto 4, 3) := by decide +kernel
theorem dX0_notePlace_30 : decode cX0_notePlace 30 = .ok (.iconst 0, 1) := by decide +kernel
theorem dX0_notePlace_31 : decode cX0_notePlace 31 = .ok (.invokestatic 50, 3) := by decide +kernel
theorem dX0_notePlace_34 : decode cX0_notePlace 34 = .ok (.iadd, 1) := by decide +kernel
theorem dX0_notePlace_35 : decode cX0_notePlace 35 = .ok (.istore_n 2, 1) := by decide +kernel
theorem dX0_notePlace_36 : decode cX0_notePlace 36 = .ok (.iinc 3 1, 3) := by decide +kernel
theorem dX0_notePlace_39 : decode cX0_notePlace 39 = .ok (.goto (-35), 3) := by decide +kernel
theorem dX0_notePlace_42 : decode cX0_notePlace 42 = .ok (.aload_n 0, 1) := by decide +kernel
theorem dX0_notePlace_43 : decode cX0_notePlace 43 = .ok (.aload_n 0, 1) := by decide +kernel
theorem dX0_notePlace_44 : decode cX0_notePlace 44 = .ok (.getfield 104, 3) := by decide +kernel
theorem dX0_notePlace_47 : decode cX0_notePlace 47 = .ok (.iload_n 2, 1) := by decide +kernel
theorem dX0_notePlace_48 : decode cX0_notePlace 48 = .ok (.invokestatic 118, 3) := by decide +kernel
theorem dX0_notePlace_51 : decode cX0_notePlace 51 = .ok (.putfield 104, 3) := by decide +kernel
theorem dX0_notePlace_54 : decode cX0_notePlace 54 = .ok (.aload_n 0, 1) := by decide +kernel
theorem dX0_notePlace_55 : decode cX0_notePlace 55 = .ok (.aload_n 0, 1) := by decide +kernel
theorem dX0_notePlace_56 : decode cX0_notePlace 56 = .ok (.getfield 107, 3) := by decide +kernel
theorem dX0_notePlace_59 : decode cX0_notePlace 59 = .ok (.iload_n 2, 1) := by decide +kernel
theorem dX0_notePlace_60 : decode cX0_notePlace 60 = .ok (.invokestatic 123, 3) := by decide +kernel
theorem dX0_notePlace_63 : decode cX0_notePlace 63 = .ok (.putfield 107, 3) := by decide +kernel
theorem dX0_notePlace_66 : decode cX0_notePlace 66 = .ok (.return_, 1) := by decide +kernel
theorem dX1_init_0 : decode cX1_init 0 = .ok (.aload_n 0, 1) := by decide +kernel
theorem dX1_init_1 : decode cX1_init 1 = .ok (.invokespecial 1, 3) := by decide +kernel
theorem dX1_init_4 : decode cX1_init 4 = .ok (.aload_n 0, 1) := by decide +kernel
theorem dX1_init_5 : decode cX1_init 5 = .ok (.bipush 12, 2) := by decide +kernel
theorem dX1_init_7 : decode cX1_init 7 = .ok (.anewarray 9, 3) := by decide +kernel
theorem dX1_init_10 : decode cX1_init 10 = .ok (.putfield 11, 3) := by decide +kernel
theorem dX1_init_13 : decode cX1_init 13 = .ok (.iconst 0, 1) := by decide +kernel
theorem dX1_init_14 : decode cX1_init 14 = .ok (.istore_n 1, 1) := by decide +kernel
theorem dX1_init_15 : decode cX1_init 15 = .ok (.iload_n 1, 1) := by decide +kernel
theorem dX1_init_16 : decode cX1_init 16 = .ok (.bipush 12, 2) := by decide +kernel
theorem dX1_init_18 : decode cX1_init 18 = .ok (.if_icmp .ge 22, 3) := by decide +kernel
theorem dX1_init_21 : decode cX1_init 21 = .ok (.aload_n 0, 1) := by decide +kernel
theorem dX1_init_22 : decode cX1_init 22 = .ok (.getfield 11, 3) := by decide +kernel
theorem dX1_init_25 : decode cX1_init 25 = .ok (.iload_n 1, 1) := by decide +kernel
theorem dX1_init_26 : decode cX1_init 26 = .ok (.new 9, 3) := by decide +kernel
theorem dX1_init_29 : decode cX1_init 29 = .ok (.dup, 1) := by decide +kernel
theorem dX1_init_30 : decode cX1_init 30 = .ok (.invokespecial 15, 3) := by decide +kernel
theorem dX1_init_33 : decode cX1_init 33 = .ok (.aastore, 1) := by decide +kernel
theorem dX1_init_34 : decode cX1_init 34 = .ok (.iinc 1 1, 3) := by decide +kernel
theorem dX1_init_37 : decode cX1_init 37 = .ok (.goto (-22), 3) := by decide +kernel
theorem dX1_init_40 : decode cX1_init 40 = .ok (.return_, 1) := by decide +kernel
theorem dX1_find_0 : decode cX1_find 0 = .ok (.iload_n 1, 1) := by decide +kernel
theorem dX1_find_1 : decode cX1_find 1 = .ok (.iconst 0, 1) := by decide +kernel
theorem dX1_find_2 : decode cX1_find 2 = .ok (.aload_n 0, 1) := by decide +kernel
theorem dX1_find_3 : decode cX1_find 3 = .ok (.getfield 16, 3) := by decide +kernel
theorem dX1_find_6 : decode cX1_find 6 = .ok (.iconst 1, 1) := by decide +kernel
theorem dX1_find_7 : decode cX1_find 7 = .ok (.isub, 1) := by decide +kernel
theorem dX1_find_8 : decode cX1_find 8 = .ok (.invokestatic 20, 3) := by decide +kernel
theorem dX1_find_11 : decode cX1_find 11 = .ok (.ifCond .eq 12, 3) := by decide +kernel
theorem dX1_find_14 : decode cX1_find 14 = .ok (.aload_n 0, 1) := by decide +kernel
theorem dX1_find_15 : decode cX1_find 15 = .ok (.getfield 11, 3) := by decide +kernel
theorem dX1_find_18 : decode cX1_find 18 = .ok (.iload_n 1, 1) := by decide +kernel
theorem dX1_find_19 : decode cX1_find 19 = .ok (.aaload, 1) := by decide +kernel
theorem dX1_find_20 : decode cX1_find 20 = .ok (.goto 4, 3) := by decide +kernel
theorem dX1_find_23 : decode cX1_find 23 = .ok (.aconst_null, 1) := by decide +kernel
theorem dX1_find_24 : decode cX1_find 24 = .ok (.areturn, 1) := by decide +kernel
theorem dX1_liesOn_0 : decode cX1_liesOn 0 = .ok (.aload_n 0, 1) := by decide +kernel
theorem dX1_liesOn_1 : decode cX1_liesOn 1 = .ok (.getfield 11, 3) := by decide +kernel
theorem dX1_liesOn_4 : decode cX1_liesOn 4 = .ok (.iload_n 1, 1) := by decide +kernel
theorem dX1_liesOn_5 : decode cX1_liesOn 5 = .ok (.aaload, 1) := by decide +kernel
theorem dX1_liesOn_6 : decode cX1_liesOn 6 = .ok (.astore_n 3, 1) := by decide +kernel
theorem dX1_liesOn_7 : decode cX1_liesOn 7 = .ok (.aload_n 0, 1) := by decide +kernel
theorem dX1_liesOn_8 : decode cX1_liesOn 8 = .ok (.getfield 11, 3) := by decide +kernel
theorem dX1_liesOn_11 : decode cX1_liesOn 11 = .ok (.iload_n 2, 1) := by decide +kernel
theorem dX1_liesOn_12 : decode cX1_liesOn 12 = .ok (.aaload, 1) := by decide +kernel
theorem dX1_liesOn_13 : decode cX1_liesOn 13 = .ok (.astore 4, 2) := by decide +kernel
theorem dX1_liesOn_15 : decode cX1_liesOn 15 = .ok (.aload_n 3, 1) := by decide +kernel
theorem dX1_liesOn_16 : decode cX1_liesOn 16 = .ok (.getfield 26, 3) := by decide +kernel
theorem dX1_liesOn_19 : decode cX1_liesOn 19 = .ok (.ifCond .ne 24, 3) := by decide +kernel
theorem dX1_liesOn_22 : decode cX1_liesOn 22 = .ok (.aload 4, 2) := by decide +kernel
theorem dX1_liesOn_24 : decode cX1_liesOn 24 = .ok (.getfield 26, 3) := by decide +kernel
theorem dX1_liesOn_27 : decode cX1_liesOn 27 = .ok (.ifCond .ne 16, 3) := by decide +kernel
theorem dX1_liesOn_30 : decode cX1_liesOn 30 = .ok (.aload_n 3, 1) := by decide +kernel
theorem dX1_liesOn_31 : decode cX1_liesOn 31 = .ok (.aload 4, 2) := by decide +kernel
theorem dX1_liesOn_33 : decode cX1_liesOn 33 = .ok (.invokevirtual 30, 3) := by decide +kernel
theorem dX1_liesOn_36 : decode cX1_liesOn 36 = .ok (.ifCond .eq 7, 3) := by decide +kernel
theorem dX1_liesOn_39 : decode cX1_liesOn 39 = .ok (.iconst 1, 1) := by decide +kernel
theorem dX1_liesOn_40 : decode cX1_liesOn 40 = .ok (.goto 4, 3) := by decide +kernel
theorem dX1_liesOn_43 : decode cX1_liesOn 43 = .ok (.iconst 0, 1) := by decide +kernel
theorem dX1_liesOn_44 : decode cX1_liesOn 44 = .ok (.ireturn, 1) := by decide +kernel
theorem dX1_lyingOn_0 : decode cX1_lyingOn 0 = .ok (.iconst 0, 1) := by decide +kernel
theorem dX1_lyingOn_1 : decode cX1_lyingOn 1 = .ok (.istore_n 2, 1) := by decide +kernel
theorem dX1_lyingOn_2 : decode cX1_lyingOn 2 = .ok (.iload_n 1, 1) := by decide +kernel
theorem dX1_lyingOn_3 : decode cX1_lyingOn 3 = .ok (.iconst 1, 1) := by decide +kernel
theorem dX1_lyingOn_4 : decode cX1_lyingOn 4 = .ok (.iadd, 1) := by decide +kernel
theorem dX1_lyingOn_5 : decode cX1_lyingOn 5 = .ok (.istore_n 3, 1) := by decide +kernel
theorem dX1_lyingOn_6 : decode cX1_lyingOn 6 = .ok (.iload_n 3, 1) := by decide +kernel
theorem dX1_lyingOn_7 : decode cX1_lyingOn 7 = .ok (.aload_n 0, 1) := by decide +kernel
theorem dX1_lyingOn_8 : decode cX1_lyingOn 8 = .ok (.getfield 16, 3) := by decide +kernel
theorem dX1_lyingOn_11 : decode cX1_lyingOn 11 = .ok (.if_icmp .ge 24, 3) := by decide +kernel
theorem dX1_lyingOn_14 : decode cX1_lyingOn 14 = .ok (.aload_n 0, 1) := by decide +kernel
theorem dX1_lyingOn_15 : decode cX1_lyingOn 15 = .ok (.iload_n 3, 1) := by decide +kernel
theorem dX1_lyingOn_16 : decode cX1_lyingOn 16 = .ok (.iload_n 1, 1) := by decide +kernel
theorem dX1_lyingOn_17 : decode cX1_lyingOn 17 = .ok (.invokevirtual 34, 3) := by decide +kernel
theorem dX1_lyingOn_20 : decode cX1_lyingOn 20 = .ok (.ifCond .eq 9, 3) := by decide +kernel
theorem dX1_lyingOn_23 : decode cX1_lyingOn 23 = .ok (.iload_n 2, 1) := by decide +kernel
theorem dX1_lyingOn_24 : decode cX1_lyingOn 24 = .ok (.iconst 1, 1) := by decide +kernel
theorem dX1_lyingOn_25 : decode cX1_lyingOn 25 = .ok (.iload_n 3, 1) := by decide +kernel
theorem dX1_lyingOn_26 : decode cX1_lyingOn 26 = .ok (.ishl, 1) := by decide +kernel
theorem dX1_lyingOn_27 : decode cX1_lyingOn 27 = .ok (.ior, 1) := by decide +kernel
theorem dX1_lyingOn_28 : decode cX1_lyingOn 28 = .ok (.istore_n 2, 1) := by decide +kernel
theorem dX1_lyingOn_29 : decode cX1_lyingOn 29 = .ok (.iinc 3 1, 3) := by decide +kernel
theorem dX1_lyingOn_32 : decode cX1_lyingOn 32 = .ok (.goto (-26), 3) := by decide +kernel
theorem dX1_lyingOn_35 : decode cX1_lyingOn 35 = .ok (.iload_n 2, 1) := by decide +kernel
theorem dX1_lyingOn_36 : decode cX1_lyingOn 36 = .ok (.ireturn, 1) := by decide +kernel
theorem dX1_lyingUnder_0 : decode cX1_lyingUnder 0 = .ok (.iconst 0, 1) := by decide +kernel
theorem dX1_lyingUnder_1 : decode cX1_lyingUnder 1 = .ok (.istore_n 2, 1) := by decide +kernel
theorem dX1_lyingUnder_2 : decode cX1_lyingUnder 2 = .ok (.iconst 0, 1) := by decide +kernel
theorem dX1_lyingUnder_3 : decode cX1_lyingUnder 3 = .ok (.istore_n 3, 1) := by decide +kernel
theorem dX1_lyingUnder_4 : decode cX1_lyingUnder 4 = .ok (.iload_n 3, 1) := by decide +kernel
theorem dX1_lyingUnder_5 : decode cX1_lyingUnder 5 = .ok (.iload_n 1, 1) := by decide +kernel
theorem dX1_lyingUnder_6 : decode cX1_lyingUnder 6 = .ok (.if_icmp .ge 24, 3) := by decide +kernel
theorem dX1_lyingUnder_9 : decode cX1_lyingUnder 9 = .ok (.aload_n 0, 1) := by decide +kernel
theorem dX1_lyingUnder_10 : decode cX1_lyingUnder 10 = .ok (.iload_n 1, 1) := by decide +kernel
theorem dX1_lyingUnder_11 : decode cX1_lyingUnder 11 = .ok (.iload_n 3, 1) := by decide +kernel
theorem dX1_lyingUnder_12 : decode cX1_lyingUnder 12 = .ok (.invokevirtual 34, 3) := by decide +kernel
theorem dX1_lyingUnder_15 : decode cX1_lyingUnder 15 = .ok (.ifCond .eq 9, 3) := by decide +kernel
theorem dX1_lyingUnder_18 : decode cX1_lyingUnder 18 = .ok (.iload_n 2, 1) := by decide +kernel
theorem dX1_lyingUnder_19 : decode cX1_lyingUnder 19 = .ok (.iconst 1, 1) := by decide +kernel
theorem dX1_lyingUnder_20 : decode cX1_lyingUnder 20 = .ok (.iload_n 3, 1) := by decide +kernel
theorem dX1_lyingUnder_21 : decode cX1_lyingUnder 21 = .ok (.ishl, 1) := by decide +kernel
theorem dX1_lyingUnder_22 : decode cX1_lyingUnder 22 = .ok (.ior, 1) := by decide +kernel
theorem dX1_lyingUnder_23 : decode cX1_lyingUnder 23 = .ok (.istore_n 2, 1) := by decide +kernel
theorem dX1_lyingUnder_24 : decode cX1_lyingUnder 24 = .ok (.iinc 3 1, 3) := by decide +kernel
theorem dX1_lyingUnder_27 : decode cX1_lyingUnder 27 = .ok (.goto (-23), 3) := by decide +kernel
theorem dX1_lyingUnder_30 : decode cX1_lyingUnder 30 = .ok (.iload_n 2, 1) := by decide +kernel
theorem dX1_lyingUnder_31 : decode cX1_lyingUnder 31 = .ok (.ireturn, 1) := by decide +kernel
theorem dX1_ofSide_0 : decode cX1_ofSide 0 = .ok (.iconst 0, 1) := by decide +kernel
theorem dX1_ofSide_1 : decode cX1_ofSide 1 = .ok (.istore_n 2, 1) := by decide +kernel
theorem dX1_ofSide_2 : decode cX1_ofSide 2 = .ok (.iconst 0, 1) := by decide +kernel
theorem dX1_ofSide_3 : decode cX1_ofSide 3 = .ok (.istore_n 3, 1) := by decide +kernel
theorem dX1_ofSide_4 : decode cX1_ofSide 4 = .ok (.iload_n 3, 1) := by decide +kernel
theorem dX1_ofSide_5 : decode cX1_ofSide 5 = .ok (.aload_n 0, 1) := by decide +kernel
theorem dX1_ofSide_6 : decode cX1_ofSide 6 = .ok (.getfield 16, 3) := by decide +kernel
theorem dX1_ofSide_9 : decode cX1_ofSide 9 = .ok (.if_icmp .ge 28, 3) := by decide +kernel
theorem dX1_ofSide_12 : decode cX1_ofSide 12 = .ok (.aload_n 0, 1) := by decide +kernel
theorem dX1_ofSide_13 : decode cX1_ofSide 13 = .ok (.getfield 11, 3) := by decide +kernel
theorem dX1_ofSide_16 : decode cX1_ofSide 16 = .ok (.iload_n 3, 1) := by decide +kernel
theorem dX1_ofSide_17 : decode cX1_ofSide 17 = .ok (.aaload, 1) := by decide +kernel
theorem dX1_ofSide_18 : decode cX1_ofSide 18 = .ok (.getfield 38, 3) := by decide +kernel
theorem dX1_ofSide_21 : decode cX1_ofSide 21 = .ok (.iload_n 1, 1) := by decide +kernel
theorem dX1_ofSide_22 : decode cX1_ofSide 22 = .ok (.if_icmp .ne 9, 3) := by decide +kernel
theorem dX1_ofSide_25 : decode cX1_ofSide 25 = .ok (.iload_n 2, 1) := by decide +kernel
theorem dX1_ofSide_26 : decode cX1_ofSide 26 = .ok (.iconst 1, 1) := by decide +kernel
theorem dX1_ofSide_27 : decode cX1_ofSide 27 = .ok (.iload_n 3, 1) := by decide +kernel
theorem dX1_ofSide_28 : decode cX1_ofSide 28 = .ok (.ishl, 1) := by decide +kernel
theorem dX1_ofSide_29 : decode cX1_ofSide 29 = .ok (.ior, 1) := by decide +kernel
theorem dX1_ofSide_30 : decode cX1_ofSide 30 = .ok (.istore_n 2, 1) := by decide +kernel
theorem dX1_ofSide_31 : decode cX1_ofSide 31 = .ok (.iinc 3 1, 3) := by decide +kernel
theorem dX1_ofSide_34 : decode cX1_ofSide 34 = .ok (.goto (-30), 3) := by decide +kernel
theorem dX1_ofSide_37 : decode cX1_ofSide 37 = .ok (.iload_n 2, 1) := by decide +kernel
theorem dX1_ofSide_38 : decode cX1_ofSide 38 = .ok (.ireturn, 1) := by decide +kernel
theorem dX1_ringers_0 : decode cX1_ringers 0 = .ok (.iconst 0, 1) := by decide +kernel
theorem dX1_ringers_1 : decode cX1_ringers 1 = .ok (.istore_n 1, 1) := by decide +kernel
theorem dX1_ringers_2 : decode cX1_ringers 2 = .ok (.iconst 0, 1) := by decide +kernel
theorem dX1_ringers_3 : decode cX1_ringers 3 = .ok (.istore_n 2, 1) := by decide +kernel
theorem dX1_ringers_4 : decode cX1_ringers 4 = .ok (.iload_n 2, 1) := by decide +kernel
theorem dX1_ringers_5 : decode cX1_ringers 5 = .ok (.aload_n 0, 1) := by decide +kernel
theorem dX1_ringers_6 : decode cX1_ringers 6 = .ok (.getfield 16, 3) := by decide +kernel
theorem dX1_ringers_9 : decode cX1_ringers 9 = .ok (.if_icmp .ge 27, 3) := by decide +kernel
theorem dX1_ringers_12 : decode cX1_ringers 12 = .ok (.aload_n 0, 1) := by decide +kernel
theorem dX1_ringers_13 : decode cX1_ringers 13 = .ok (.getfield 11, 3) := by decide +kernel
theorem dX1_ringers_16 : decode cX1_ringers 16 = .ok (.iload_n 2, 1) := by decide +kernel
theorem dX1_ringers_17 : decode cX1_ringers 17 = .ok (.aaload, 1) := by decide +kernel
theorem dX1_ringers_18 : decode cX1_ringers 18 = .ok (.invokevirtual 41, 3) := by decide +kernel
theorem dX1_ringers_21 : decode cX1_ringers 21 = .ok (.ifCond .eq 9, 3) := by decide +kernel
theorem dX1_ringers_24 : decode cX1_ringers 24 = .ok (.iload_n 1, 1) := by decide +kernel
theorem dX1_ringers_25 : decode cX1_ringers 25 = .ok (.iconst 1, 1) := by decide +kernel
theorem dX1_ringers_26 : decode cX1_ringers 26 = .ok (.iload_n 2, 1) := by decide +kernel
theorem dX1_ringers_27 : decode cX1_ringers 27 = .ok (.ishl, 1) := by decide +kernel
theorem dX1_ringers_28 : decode cX1_ringers 28 = .ok (.ior, 1) := by decide +kernel
theorem dX1_ringers_29 : decode cX1_ringers 29 = .ok (.istore_n 1, 1) := by decide +kernel
theorem dX1_ringers_30 : decode cX1_ringers 30 = .ok (.iinc 2 1, 3) := by decide +kernel
theorem dX1_ringers_33 : decode cX1_ringers 33 = .ok (.goto (-29), 3) := by decide +kernel
theorem dX1_ringers_36 : decode cX1_ringers 36 = .ok (.iload_n 1, 1) := by decide +kernel
theorem dX1_ringers_37 : decode cX1_ringers 37 = .ok (.ireturn, 1) := by decide +kernel
theorem dX1_countOff_0 : decode cX1_countOff 0 = .ok (.iconst 0, 1) := by decide +kernel
theorem dX1_countOff_1 : decode cX1_countOff 1 = .ok (.istore_n 1, 1) := by decide +kernel
theorem dX1_countOff_2 : decode cX1_countOff 2 = .ok (.iconst 0, 1) := by decide +kernel
theorem dX1_countOff_3 : decode cX1_countOff 3 = .ok (.istore_n 2, 1) := by decide +kernel
theorem dX1_countOff_4 : decode cX1_countOff 4 = .ok (.iload_n 2, 1) := by decide +kernel
theorem dX1_countOff_5 : decode cX1_countOff 5 = .ok (.aload_n 0, 1) := by decide +kernel
theorem dX1_countOff_6 : decode cX1_countOff 6 = .ok (.getfield 16, 3) := by decide +kernel
theorem dX1_countOff_9 : decode cX1_countOff 9 = .ok (.if_icmp .ge 24, 3) := by decide +kernel
theorem dX1_countOff_12 : decode cX1_countOff 12 = .ok (.iload_n 1, 1) := by decide +kernel
theorem dX1_countOff_13 : decode cX1_countOff 13 = .ok (.aload_n 0, 1) := by decide +kernel
theorem dX1_countOff_14 : decode cX1_countOff 14 = .ok (.getfield 11, 3) := by decide +kernel
theorem dX1_countOff_17 : decode cX1_countOff 17 = .ok (.iload_n 2, 1) := by decide +kernel
theorem dX1_countOff_18 : decode cX1_countOff 18 = .ok (.aaload, 1) := by decide +kernel
theorem dX1_countOff_19 : decode cX1_countOff 19 = .ok (.getfield 26, 3) := by decide +kernel
theorem dX1_countOff_22 : decode cX1_countOff 22 = .ok (.invokestatic 45, 3) := by decide +kernel
theorem dX1_countOff_25 : decode cX1_countOff 25 = .ok (.iadd, 1) := by decide +kernel
theorem dX1_countOff_26 : decode cX1_countOff 26 = .ok (.istore_n 1, 1) := by decide +kernel
theorem dX1_countOff_27 : decode cX1_countOff 27 = .ok (.iinc 2 1, 3) := by decide +kernel
theorem dX1_countOff_30 : decode cX1_countOff 30 = .ok (.goto (-26), 3) := by decide +kernel
theorem dX1_countOff_33 : decode cX1_countOff 33 = .ok (.iload_n 1, 1) := by decide +kernel
theorem dX1_countOff_34 : decode cX1_countOff 34 = .ok (.ireturn, 1) := by decide +kernel
theorem dX1_countRingers_0 : decode cX1_countRingers 0 = .ok (.iconst 0, 1) := by decide +kernel
theorem dX1_countRingers_1 : decode cX1_countRingers 1 = .ok (.istore_n 2, 1) := by decide +kernel
theorem dX1_countRingers_2 : decode cX1_countRingers 2 = .ok (.iconst 0, 1) := by decide +kernel
theorem dX1_countRingers_3 : decode cX1_countRingers 3 = .ok (.istore_n 3, 1) := by decide +kernel
theorem dX1_countRingers_4 : decode cX1_countRingers 4 = .ok (.iload_n 3, 1) := by decide +kernel
theorem dX1_countRingers_5 : decode cX1_countRingers 5 = .ok (.aload_n 0, 1) := by decide +kernel
theorem dX1_countRingers_6 : decode cX1_countRingers 6 = .ok (.getfield 16, 3) := by decide +kernel
theorem dX1_countRingers_9 : decode cX1_countRingers 9 = .ok (.if_icmp .ge 53, 3) := by decide +kernel
theorem dX1_countRingers_12 : decode cX1_countRingers 12 = .ok (.aload_n 0, 1) := by decide +kernel
theorem dX1_countRingers_13 : decode cX1_countRingers 13 = .ok (.getfield 11, 3) := by decide +kernel
theorem dX1_countRingers_16 : decode cX1_countRingers 16 = .ok (.iload_n 3, 1) := by decide +kernel
theorem dX1_countRingers_17 : decode cX1_countRingers 17 = .ok (.aaload, 1) := by decide +kernel
theorem dX1_countRingers_18 : decode cX1_countRingers 18 = .ok (.astore 4, 2) := by decide +kernel
theorem dX1_countRingers_20 : decode cX1_countRingers 20 = .ok (.iload_n 2, 1) := by decide +kernel
theorem dX1_countRingers_21 : decode cX1_countRingers 21 = .ok (.aload 4, 2) := by decide +kernel
theorem dX1_countRingers_23 : decode cX1_countRingers 23 = .ok (.getfield 38, 3) := by decide +kernel
theorem dX1_countRingers_26 : decode cX1_countRingers 26 = .ok (.iload_n 1, 1) := by decide +kernel
theorem dX1_countRingers_27 : decode cX1_countRingers 27 = .ok (.if_icmp .ne 23, 3) := by decide +kernel
theorem dX1_countRingers_30 : decode cX1_countRingers 30 = .ok (.aload 4, 2) := by decide +kernel
theorem dX1_countRingers_32 : decode cX1_countRingers 32 = .ok (.getfield 26, 3) := by decide +kernel
theorem dX1_countRingers_35 : decode cX1_countRingers 35 = .ok (.ifCond .ne 15, 3) := by decide +kernel
theorem dX1_countRingers_38 : decode cX1_countRingers 38 = .ok (.aload 4, 2) := by decide +kernel
theorem dX1_countRingers_40 : decode cX1_countRingers 40 = .ok (.invokevirtual 41, 3) := by decide +kernel
theorem dX1_countRingers_43 : decode cX1_countRingers 43 = .ok (.ifCond .eq 7, 3) := by decide +kernel
theorem dX1_countRingers_46 : decode cX1_countRingers 46 = .ok (.iconst 1, 1) := by decide +kernel
theorem dX1_countRingers_47 : decode cX1_countRingers 47 = .ok (.goto 4, 3) := by decide +kernel
theorem dX1_countRingers_50 : decode cX1_countRingers 50 = .ok (.iconst 0, 1) := by decide +kernel
theorem dX1_countRingers_51 : decode cX1_countRingers 51 = .ok (.invokestatic 45, 3) := by decide +kernel
theorem dX1_countRingers_54 : decode cX1_countRingers 54 = .ok (.iadd, 1) := by decide +kernel
theorem dX1_countRingers_55 : decode cX1_countRingers 55 = .ok (.istore_n 2, 1) := by decide +kernel
theorem dX1_countRingers_56 : decode cX1_countRingers 56 = .ok (.iinc 3 1, 3) := by decide +kernel
theorem dX1_countRingers_59 : decode cX1_countRingers 59 = .ok (.goto (-55), 3) := by decide +kernel
theorem dX1_countRingers_62 : decode cX1_countRingers 62 = .ok (.iload_n 2, 1) := by decide +kernel
theorem dX1_countRingers_63 : decode cX1_countRingers 63 = .ok (.ireturn, 1) := by decide +kernel
theorem dX1_countMeasured_0 : decode cX1_countMeasured 0 = .ok (.iconst 0, 1) := by decide +kernel
theorem dX1_countMeasured_1 : decode cX1_countMeasured 1 = .ok (.istore_n 1, 1) := by decide +kernel
theorem dX1_countMeasured_2 : decode cX1_countMeasured 2 = .ok (.iconst 0, 1) := by decide +kernel
theorem dX1_countMeasured_3 : decode cX1_countMeasured 3 = .ok (.istore_n 2, 1) := by decide +kernel
theorem dX1_countMeasured_4 : decode cX1_countMeasured 4 = .ok (.iload_n 2, 1) := by decide +kernel
theorem dX1_countMeasured_5 : decode cX1_countMeasured 5 = .ok (.aload_n 0, 1) := by decide +kernel
theorem dX1_countMeasured_6 : decode cX1_countMeasured 6 = .ok (.getfield 16, 3) := by decide +kernel
theorem dX1_countMeasured_9 : decode cX1_countMeasured 9 = .ok (.if_icmp .ge 32, 3) := by decide +kernel
theorem dX1_countMeasured_12 : decode cX1_countMeasured 12 = .ok (.iload_n 1, 1) := by decide +kernel
theorem dX1_countMeasured_13 : decode cX1_countMeasured 13 = .ok (.aload_n 0, 1) := by decide +kernel
theorem dX1_countMeasured_14 : decode cX1_countMeasured 14 = .ok (.getfield 11, 3) := by decide +kernel
theorem dX1_countMeasured_17 : decode cX1_countMeasured 17 = .ok (.iload_n 2, 1) := by decide +kernel
theorem dX1_countMeasured_18 : decode cX1_countMeasured 18 = .ok (.aaload, 1) := by decide +kernel
theorem dX1_countMeasured_19 : decode cX1_countMeasured 19 = .ok (.invokevirtual 49, 3) := by decide +kernel
theorem dX1_countMeasured_22 : decode cX1_countMeasured 22 = .ok (.ifCond .le 7, 3) := by decide +kernel
theorem dX1_countMeasured_25 : decode cX1_countMeasured 25 = .ok (.iconst 1, 1) := by decide +kernel
theorem dX1_countMeasured_26 : decode cX1_countMeasured 26 = .ok (.goto 4, 3) := by decide +kernel
theorem dX1_countMeasured_29 : decode cX1_countMeasured 29 = .ok (.iconst 0, 1) := by decide +kernel
theorem dX1_countMeasured_30 : decode cX1_countMeasured 30 = .ok (.invokestatic 45, 3) := by decide +kernel
theorem dX1_countMeasured_33 : decode cX1_countMeasured 33 = .ok (.iadd, 1) := by decide +kernel
theorem dX1_countMeasured_34 : decode cX1_countMeasured 34 = .ok (.istore_n 1, 1) := by decide +kernel
theorem dX1_countMeasured_35 : decode cX1_countMeasured 35 = .ok (.iinc 2 1, 3) := by decide +kernel
theorem dX1_countMeasured_38 : decode cX1_countMeasured 38 = .ok (.goto (-34), 3) := by decide +kernel
theorem dX1_countMeasured_41 : decode cX1_countMeasured 41 = .ok (.iload_n 1, 1) := by decide +kernel
theorem dX1_countMeasured_42 : decode cX1_countMeasured 42 = .ok (.ireturn, 1) := by decide +kernel
theorem dX1_countDisputed_0 : decode cX1_countDisputed 0 = .ok (.iconst 0, 1) := by decide +kernel
theorem dX1_countDisputed_1 : decode cX1_countDisputed 1 = .ok (.istore_n 1, 1) := by decide +kernel
theorem dX1_countDisputed_2 : decode cX1_countDisputed 2 = .ok (.iconst 0, 1) := by decide +kernel
theorem dX1_countDisputed_3 : decode cX1_countDisputed 3 = .ok (.istore_n 2, 1) := by decide +kernel
theorem dX1_countDisputed_4 : decode cX1_countDisputed 4 = .ok (.iload_n 2, 1) := by decide +kernel
theorem dX1_countDisputed_5 : decode cX1_countDisputed 5 = .ok (.aload_n 0, 1) := by decide +kernel
theorem dX1_countDisputed_6 : decode cX1_countDisputed 6 = .ok (.getfield 16, 3) := by decide +kernel
theorem dX1_countDisputed_9 : decode cX1_countDisputed 9 = .ok (.if_icmp .ge 24, 3) := by decide +kernel
theorem dX1_countDisputed_12 : decode cX1_countDisputed 12 = .ok (.iload_n 1, 1) := by decide +kernel
theorem dX1_countDisputed_13 : decode cX1_countDisputed 13 = .ok (.aload_n 0, 1) := by decide +kernel
theorem dX1_countDisputed_14 : decode cX1_countDisputed 14 = .ok (.getfield 11, 3) := by decide +kernel
theorem dX1_countDisputed_17 : decode cX1_countDisputed 17 = .ok (.iload_n 2, 1) := by decide +kernel
theorem dX1_countDisputed_18 : decode cX1_countDisputed 18 = .ok (.aaload, 1) := by decide +kernel
theorem dX1_countDisputed_19 : decode cX1_countDisputed 19 = .ok (.invokevirtual 53, 3) := by decide +kernel
theorem dX1_countDisputed_22 : decode cX1_countDisputed 22 = .ok (.invokestatic 45, 3) := by decide +kernel
theorem dX1_countDisputed_25 : decode cX1_countDisputed 25 = .ok (.iadd, 1) := by decide +kernel
theorem dX1_countDisputed_26 : decode cX1_countDisputed 26 = .ok (.istore_n 1, 1) := by decide +kernel
theorem dX1_countDisputed_27 : decode cX1_countDisputed 27 = .ok (.iinc 2 1, 3) := by decide +kernel
theorem dX1_countDisputed_30 : decode cX1_countDisputed 30 = .ok (.goto (-26), 3) := by decide +kernel
theorem dX1_countDisputed_33 : decode cX1_countDisputed 33 = .ok (.iload_n 1, 1) := by decide +kernel
theorem dX1_countDisputed_34 : decode cX1_countDisputed 34 = .ok (.ireturn, 1) := by decide +kernel
theorem dX2_init_0 : decode cX2_init 0 = .ok (.aload_n 0, 1) := by decide +kernel
theorem dX2_init_1 : decode cX2_init 1 = .ok (.invokespecial 3, 3) := by decide +kernel
theorem dX2_init_4 : decode cX2_init 4 = .ok (.aload_n 0, 1) := by decide +kernel
theorem dX2_init_5 : decode cX2_init 5 = .ok (.iconst 3, 1) := by decide +kernel
theorem dX2_init_6 : decode cX2_init 6 = .ok (.newarray .int, 2) := by decide +kernel
theorem dX2_init_8 : decode cX2_init 8 = .ok (.putfield 9, 3) := by decide +kernel
theorem dX2_init_11 : decode cX2_init 11 = .ok (.aload_n 0, 1) := by decide +kernel
theorem dX2_init_12 : decode cX2_init 12 = .ok (.iconst 3, 1) := by decide +kernel
theorem dX2_init_13 : decode cX2_init 13 = .ok (.newarray .int, 2) := by decide +kernel
theorem dX2_init_15 : decode cX2_init 15 = .ok (.putfield 15, 3) := by decide +kernel
theorem dX2_init_18 : decode cX2_init 18 = .ok (.return_, 1) := by decide +kernel
theorem dX2_lay_0 : decode cX2_lay 0 = .ok (.aload_n 0, 1) := by decide +kernel
theorem dX2_lay_1 : decode cX2_lay 1 = .ok (.iload_n 1, 1) := by decide +kernel
theorem dX2_lay_2 : decode cX2_lay 2 = .ok (.putfield 18, 3) := by decide +kernel
theorem dX2_lay_5 : decode cX2_lay 5 = .ok (.aload_n 0, 1) := by decide +kernel
theorem dX2_lay_6 : decode cX2_lay 6 = .ok (.iload 4, 2) := by decide +kernel
theorem dX2_lay_8 : decode cX2_lay 8 = .ok (.putfield 22, 3) := by decide +kernel
theorem dX2_lay_11 : decode cX2_lay 11 = .ok (.aload_n 0, 1) := by decide +kernel
theorem dX2_lay_12 : decode cX2_lay 12 = .ok (.iload 5, 2) := by decide +kernel
theorem dX2_lay_14 : decode cX2_lay 14 = .ok (.putfield 25, 3) := by decide +kernel
theorem dX2_lay_17 : decode cX2_lay 17 = .ok (.aload_n 0, 1) := by decide +kernel
theorem dX2_lay_18 : decode cX2_lay 18 = .ok (.iload 6, 2) := by decide +kernel
theorem dX2_lay_20 : decode cX2_lay 20 = .ok (.putfield 28, 3) := by decide +kernel
theorem dX2_lay_23 : decode cX2_lay 23 = .ok (.aload_n 0, 1) := by decide +kernel
theorem dX2_lay_24 : decode cX2_lay 24 = .ok (.iload 7, 2) := by decide +kernel
theorem dX2_lay_26 : decode cX2_lay 26 = .ok (.putfield 31, 3) := by decide +kernel
theorem dX2_lay_29 : decode cX2_lay 29 = .ok (.aload_n 0, 1) := by decide +kernel
theorem dX2_lay_30 : decode cX2_lay 30 = .ok (.iconst 0, 1) := by decide +kernel
theorem dX2_lay_31 : decode cX2_lay 31 = .ok (.putfield 35, 3) := by decide +kernel
theorem dX2_lay_34 : decode cX2_lay 34 = .ok (.aload_n 0, 1) := by decide +kernel
theorem dX2_lay_35 : decode cX2_lay 35 = .ok (.iload_n 2, 1) := by decide +kernel
theorem dX2_lay_36 : decode cX2_lay 36 = .ok (.iload_n 3, 1) := by decide +kernel
theorem dX2_lay_37 : decode cX2_lay 37 = .ok (.invokevirtual 38, 3) := by decide +kernel
theorem dX2_lay_40 : decode cX2_lay 40 = .ok (.return_, 1) := by decide +kernel
theorem dX2_moveTo_0 : decode cX2_moveTo 0 = .ok (.aload_n 0, 1) := by decide +kernel
theorem dX2_moveTo_1 : decode cX2_moveTo 1 = .ok (.iload_n 1, 1) := by decide +kernel
theorem dX2_moveTo_2 : decode cX2_moveTo 2 = .ok (.putfield 42, 3) := by decide +kernel
theorem dX2_moveTo_5 : decode cX2_moveTo 5 = .ok (.aload_n 0, 1) := by decide +kernel
theorem dX2_moveTo_6 : decode cX2_moveTo 6 = .ok (.iload_n 2, 1) := by decide +kernel
theorem dX2_moveTo_7 : decode cX2_moveTo 7 = .ok (.putfield 45, 3) := by decide +kernel
theorem dX2_moveTo_10 : decode cX2_moveTo 10 = .ok (.iconst 0, 1) := by decide +kernel
theorem dX2_moveTo_11 : decode cX2_moveTo 11 = .ok (.istore_n 3, 1) := by decide +kernel
theorem dX2_moveTo_12 : decode cX2_moveTo 12 = .ok (.iload_n 3, 1) := by decide +kernel
theorem dX2_moveTo_13 : decode cX2_moveTo 13 = .ok (.iconst 3, 1) := by decide +kernel
theorem dX2_moveTo_14 : decode cX2_moveTo 14 = .ok (.if_icmp .ge 23, 3) := by decide +kernel
theorem dX2_moveTo_17 : decode cX2_moveTo 17 = .ok (.aload_n 0, 1) := by decide +kernel
theorem dX2_moveTo_18 : decode cX2_moveTo 18 = .ok (.getfield 9, 3) := by decide +kernel
theorem dX2_moveTo_21 : decode cX2_moveTo 21 = .ok (.iload_n 3, 1) := by decide +kernel
theorem dX2_moveTo_22 : decode cX2_moveTo 22 = .ok (.iconst (-1), 1) := by decide +kernel
theorem dX2_moveTo_23 : decode cX2_moveTo 23 = .ok (.iastore, 1) := by decide +kernel
theorem dX2_moveTo_24 : decode cX2_moveTo 24 = .ok (.aload_n 0, 1) := by decide +kernel
theorem dX2_moveTo_25 : decode cX2_moveTo 25 = .ok (.getfield 15, 3) := by decide +kernel
theorem dX2_moveTo_28 : decode cX2_moveTo 28 = .ok (.iload_n 3, 1) := by decide +kernel
theorem dX2_moveTo_29 : decode cX2_moveTo 29 = .ok (.iconst (-1), 1) := by decide +kernel
theorem dX2_moveTo_30 : decode cX2_moveTo 30 = .ok (.iastore, 1) := by decide +kernel
theorem dX2_moveTo_31 : decode cX2_moveTo 31 = .ok (.iinc 3 1, 3) := by decide +kernel
theorem dX2_moveTo_34 : decode cX2_moveTo 34 = .ok (.goto (-22), 3) := by decide +kernel
theorem dX2_moveTo_37 : decode cX2_moveTo 37 = .ok (.return_, 1) := by decide +kernel
theorem dX2_square_0 : decode cX2_square 0 = .ok (.aload_n 0, 1) := by decide +kernel
theorem dX2_square_1 : decode cX2_square 1 = .ok (.getfield 42, 3) := by decide +kernel
theorem dX2_square_4 : decode cX2_square 4 = .ok (.aload_n 0, 1) := by decide +kernel
theorem dX2_square_5 : decode cX2_square 5 = .ok (.getfield 42, 3) := by decide +kernel
theorem dX2_square_8 : decode cX2_square 8 = .ok (.imul, 1) := by decide +kernel
theorem dX2_square_9 : decode cX2_square 9 = .ok (.aload_n 0, 1) := by decide +kernel
theorem dX2_square_10 : decode cX2_square 10 = .ok (.getfield 45, 3) := by decide +kernel
theorem dX2_square_13 : decode cX2_square 13 = .ok (.aload_n 0, 1) := by decide +kernel
theorem dX2_square_14 : decode cX2_square 14 = .ok (.getfield 45, 3) := by decide +kernel
theorem dX2_square_17 : decode cX2_square 17 = .ok (.imul, 1) := by decide +kernel
theorem dX2_square_18 : decode cX2_square 18 = .ok (.iadd, 1) := by decide +kernel
theorem dX2_square_19 : decode cX2_square 19 = .ok (.ireturn, 1) := by decide +kernel
theorem dX2_isRinger_0 : decode cX2_isRinger 0 = .ok (.aload_n 0, 1) := by decide +kernel
theorem dX2_isRinger_1 : decode cX2_isRinger 1 = .ok (.invokevirtual 48, 3) := by decide +kernel
theorem dX2_isRinger_4 : decode cX2_isRinger 4 = .ok (.aload_n 0, 1) := by decide +kernel
theorem dX2_isRinger_5 : decode cX2_isRinger 5 = .ok (.getfield 25, 3) := by decide +kernel
theorem dX2_isRinger_8 : decode cX2_isRinger 8 = .ok (.aload_n 0, 1) := by decide +kernel
theorem dX2_isRinger_9 : decode cX2_isRinger 9 = .ok (.getfield 25, 3) := by decide +kernel
theorem dX2_isRinger_12 : decode cX2_isRinger 12 = .ok (.imul, 1) := by decide +kernel
theorem dX2_isRinger_13 : decode cX2_isRinger 13 = .ok (.if_icmp .ge 7, 3) := by decide +kernel
theorem dX2_isRinger_16 : decode cX2_isRinger 16 = .ok (.iconst 1, 1) := by decide +kernel
theorem dX2_isRinger_17 : decode cX2_isRinger 17 = .ok (.goto 4, 3) := by decide +kernel
theorem dX2_isRinger_20 : decode cX2_isRinger 20 = .ok (.iconst 0, 1) := by decide +kernel
theorem dX2_isRinger_21 : decode cX2_isRinger 21 = .ok (.ireturn, 1) := by decide +kernel
theorem dX2_touchesPin_0 : decode cX2_touchesPin 0 = .ok (.aload_n 0, 1) := by decide +kernel
theorem dX2_touchesPin_1 : decode cX2_touchesPin 1 = .ok (.invokevirtual 48, 3) := by decide +kernel
theorem dX2_touchesPin_4 : decode cX2_touchesPin 4 = .ok (.aload_n 0, 1) := by decide +kernel
theorem dX2_touchesPin_5 : decode cX2_touchesPin 5 = .ok (.getfield 22, 3) := by decide +kernel
theorem dX2_touchesPin_8 : decode cX2_touchesPin 8 = .ok (.aload_n 0, 1) := by decide +kernel
theorem dX2_touchesPin_9 : decode cX2_touchesPin 9 = .ok (.getfield 22, 3) := by decide +kernel
theorem dX2_touchesPin_12 : decode cX2_touchesPin 12 = .ok (.imul, 1) := by decide +kernel
theorem dX2_touchesPin_13 : decode cX2_touchesPin 13 = .ok (.if_icmp .gt 7, 3) := by decide +kernel
theorem dX2_touchesPin_16 : decode cX2_touchesPin 16 = .ok (.iconst 1, 1) := by decide +kernel
theorem dX2_touchesPin_17 : decode cX2_touchesPin 17 = .ok (.goto 4, 3) := by decide +kernel
theorem dX2_touchesPin_20 : decode cX2_touchesPin 20 = .ok (.iconst 0, 1) := by decide +kernel
theorem dX2_touchesPin_21 : decode cX2_touchesPin 21 = .ok (.ireturn, 1) := by decide +kernel
theorem dX2_cutNearness_0 : decode cX2_cutNearness 0 = .ok (.iconst 0, 1) := by decide +kernel
theorem dX2_cutNearness_1 : decode cX2_cutNearness 1 = .ok (.aload_n 0, 1) := by decide +kernel
theorem dX2_cutNearness_2 : decode cX2_cutNearness 2 = .ok (.invokevirtual 48, 3) := by decide +kernel
theorem dX2_cutNearness_5 : decode cX2_cutNearness 5 = .ok (.invokestatic 52, 3) := by decide +kernel
theorem dX2_cutNearness_8 : decode cX2_cutNearness 8 = .ok (.aload_n 0, 1) := by decide +kernel
theorem dX2_cutNearness_9 : decode cX2_cutNearness 9 = .ok (.getfield 22, 3) := by decide +kernel
theorem dX2_cutNearness_12 : decode cX2_cutNearness 12 = .ok (.isub, 1) := by decide +kernel
theorem dX2_cutNearness_13 : decode cX2_cutNearness 13 = .ok (.invokestatic 56, 3) := by decide +kernel
theorem dX2_cutNearness_16 : decode cX2_cutNearness 16 = .ok (.aload_n 0, 1) := by decide +kernel
theorem dX2_cutNearness_17 : decode cX2_cutNearness 17 = .ok (.getfield 28, 3) := by decide +kernel
theorem dX2_cutNearness_20 : decode cX2_cutNearness 20 = .ok (.iadd, 1) := by decide +kernel
theorem dX2_cutNearness_21 : decode cX2_cutNearness 21 = .ok (.ireturn, 1) := by decide +kernel
theorem dX2_overlaps_0 : decode cX2_overlaps 0 = .ok (.aload_n 0, 1) := by decide +kernel
theorem dX2_overlaps_1 : decode cX2_overlaps 1 = .ok (.getfield 42, 3) := by decide +kernel
theorem dX2_overlaps_4 : decode cX2_overlaps 4 = .ok (.aload_n 1, 1) := by decide +kernel
theorem dX2_overlaps_5 : decode cX2_overlaps 5 = .ok (.getfield 42, 3) := by decide +kernel
theorem dX2_overlaps_8 : decode cX2_overlaps 8 = .ok (.isub, 1) := by decide +kernel
theorem dX2_overlaps_9 : decode cX2_overlaps 9 = .ok (.istore_n 2, 1) := by decide +kernel
theorem dX2_overlaps_10 : decode cX2_overlaps 10 = .ok (.aload_n 0, 1) := by decide +kernel
theorem dX2_overlaps_11 : decode cX2_overlaps 11 = .ok (.getfield 45, 3) := by decide +kernel
theorem dX2_overlaps_14 : decode cX2_overlaps 14 = .ok (.aload_n 1, 1) := by decide +kernel
theorem dX2_overlaps_15 : decode cX2_overlaps 15 = .ok (.getfield 45, 3) := by decide +kernel
theorem dX2_overlaps_18 : decode cX2_overlaps 18 = .ok (.isub, 1) := by decide +kernel
theorem dX2_overlaps_19 : decode cX2_overlaps 19 = .ok (.istore_n 3, 1) := by decide +kernel
theorem dX2_overlaps_20 : decode cX2_overlaps 20 = .ok (.aload_n 0, 1) := by decide +kernel
theorem dX2_overlaps_21 : decode cX2_overlaps 21 = .ok (.getfield 22, 3) := by decide +kernel
theorem dX2_overlaps_24 : decode cX2_overlaps 24 = .ok (.aload_n 1, 1) := by decide +kernel
theorem dX2_overlaps_25 : decode cX2_overlaps 25 = .ok (.getfield 22, 3) := by decide +kernel
theorem dX2_overlaps_28 : decode cX2_overlaps 28 = .ok (.iadd, 1) := by decide +kernel
theorem dX2_overlaps_29 : decode cX2_overlaps 29 = .ok (.istore 4, 2) := by decide +kernel
theorem dX2_overlaps_31 : decode cX2_overlaps 31 = .ok (.iload_n 2, 1) := by decide +kernel
theorem dX2_overlaps_32 : decode cX2_overlaps 32 = .ok (.iload_n 2, 1) := by decide +kernel
theorem dX2_overlaps_33 : decode cX2_overlaps 33 = .ok (.imul, 1) := by decide +kernel
theorem dX2_overlaps_34 : decode cX2_overlaps 34 = .ok (.iload_n 3, 1) := by decide +kernel
theorem dX2_overlaps_35 : decode cX2_overlaps 35 = .ok (.iload_n 3, 1) := by decide +kernel
theorem dX2_overlaps_36 : decode cX2_overlaps 36 = .ok (.imul, 1) := by decide +kernel
theorem dX2_overlaps_37 : decode cX2_overlaps 37 = .ok (.iadd, 1) := by decide +kernel
theorem dX2_overlaps_38 : decode cX2_overlaps 38 = .ok (.iload 4, 2) := by decide +kernel
theorem dX2_overlaps_40 : decode cX2_overlaps 40 = .ok (.iload 4, 2) := by decide +kernel
theorem dX2_overlaps_42 : decode cX2_overlaps 42 = .ok (.imul, 1) := by decide +kernel
theorem dX2_overlaps_43 : decode cX2_overlaps 43 = .ok (.if_icmp .ge 7, 3) := by decide +kernel
theorem dX2_overlaps_46 : decode cX2_overlaps 46 = .ok (.iconst 1, 1) := by decide +kernel
theorem dX2_overlaps_47 : decode cX2_overlaps 47 = .ok (.goto 4, 3) := by decide +kernel
theorem dX2_overlaps_50 : decode cX2_overlaps 50 = .ok (.iconst 0, 1) := by decide +kernel
theorem dX2_overlaps_51 : decode cX2_overlaps 51 = .ok (.ireturn, 1) := by decide +kernel
theorem dX2_countSpans_0 : decode cX2_countSpans 0 = .ok (.iconst 0, 1) := by decide +kernel
theorem dX2_countSpans_1 : decode cX2_countSpans 1 = .ok (.istore_n 1, 1) := by decide +kernel
theorem dX2_countSpans_2 : decode cX2_countSpans 2 = .ok (.iconst 0, 1) := by decide +kernel
theorem dX2_countSpans_3 : decode cX2_countSpans 3 = .ok (.istore_n 2, 1) := by decide +kernel
theorem dX2_countSpans_4 : decode cX2_countSpans 4 = .ok (.iload_n 2, 1) := by decide +kernel
theorem dX2_countSpans_5 : decode cX2_countSpans 5 = .ok (.iconst 3, 1) := by decide +kernel
theorem dX2_countSpans_6 : decode cX2_countSpans 6 = .ok (.if_icmp .ge 22, 3) := by decide +kernel
theorem dX2_countSpans_9 : decode cX2_countSpans 9 = .ok (.aload_n 0, 1) := by decide +kernel
theorem dX2_countSpans_10 : decode cX2_countSpans 10 = .ok (.getfield 9, 3) := by decide +kernel
theorem dX2_countSpans_13 : decode cX2_countSpans 13 = .ok (.iload_n 2, 1) := by decide +kernel
theorem dX2_countSpans_14 : decode cX2_countSpans 14 = .ok (.iaload, 1) := by decide +kernel
theorem dX2_countSpans_15 : decode cX2_countSpans 15 = .ok (.iconst (-1), 1) := by decide +kernel
theorem dX2_countSpans_16 : decode cX2_countSpans 16 = .ok (.if_icmp .eq 6, 3) := by decide +kernel
theorem dX2_countSpans_19 : decode cX2_countSpans 19 = .ok (.iinc 1 1, 3) := by decide +kernel
theorem dX2_countSpans_22 : decode cX2_countSpans 22 = .ok (.iinc 2 1, 3) := by decide +kernel
theorem dX2_countSpans_25 : decode cX2_countSpans 25 = .ok (.goto (-21), 3) := by decide +kernel
theorem dX2_countSpans_28 : decode cX2_countSpans 28 = .ok (.iload_n 1, 1) := by decide +kernel
theorem dX2_countSpans_29 : decode cX2_countSpans 29 = .ok (.ireturn, 1) := by decide +kernel
theorem dX2_knownLow_0 : decode cX2_knownLow 0 = .ok (.iconst 0, 1) := by decide +kernel
theorem dX2_knownLow_1 : decode cX2_knownLow 1 = .ok (.istore_n 1, 1) := by decide +kernel
theorem dX2_knownLow_2 : decode cX2_knownLow 2 = .ok (.iconst 0, 1) := by decide +kernel
theorem dX2_knownLow_3 : decode cX2_knownLow 3 = .ok (.istore_n 2, 1) := by decide +kernel
theorem dX2_knownLow_4 : decode cX2_knownLow 4 = .ok (.iload_n 2, 1) := by decide +kernel
theorem dX2_knownLow_5 : decode cX2_knownLow 5 = .ok (.iconst 3, 1) := by decide +kernel
theorem dX2_knownLow_6 : decode cX2_knownLow 6 = .ok (.if_icmp .ge 20, 3) := by decide +kernel
theorem dX2_knownLow_9 : decode cX2_knownLow 9 = .ok (.iload_n 1, 1) := by decide +kernel
theorem dX2_knownLow_10 : decode cX2_knownLow 10 = .ok (.aload_n 0, 1) := by decide +kernel
theorem dX2_knownLow_11 : decode cX2_knownLow 11 = .ok (.getfield 9, 3) := by decide +kernel
theorem dX2_knownLow_14 : decode cX2_knownLow 14 = .ok (.iload_n 2, 1) := by decide +kernel
theorem dX2_knownLow_15 : decode cX2_knownLow 15 = .ok (.iaload, 1) := by decide +kernel
theorem dX2_knownLow_16 : decode cX2_knownLow 16 = .ok (.invokestatic 56, 3) := by decide +kernel
theorem dX2_knownLow_19 : decode cX2_knownLow 19 = .ok (.istore_n 1, 1) := by decide +kernel
theorem dX2_knownLow_20 : decode cX2_knownLow 20 = .ok (.iinc 2 1, 3) := by decide +kernel
theorem dX2_knownLow_23 : decode cX2_knownLow 23 = .ok (.goto (-19), 3) := by decide +kernel
theorem dX2_knownLow_26 : decode cX2_knownLow 26 = .ok (.iload_n 1, 1) := by decide +kernel
theorem dX2_knownLow_27 : decode cX2_knownLow 27 = .ok (.ireturn, 1) := by decide +kernel
theorem dX2_knownHigh_0 : decode cX2_knownHigh 0 = .ok (.sipush 9999, 3) := by decide +kernel
theorem dX2_knownHigh_3 : decode cX2_knownHigh 3 = .ok (.istore_n 1, 1) := by decide +kernel
theorem dX2_knownHigh_4 : decode cX2_knownHigh 4 = .ok (.iconst 0, 1) := by decide +kernel
theorem dX2_knownHigh_5 : decode cX2_knownHigh 5 = .ok (.istore_n 2, 1) := by decide +kernel
theorem dX2_knownHigh_6 : decode cX2_knownHigh 6 = .ok (.iload_n 2, 1) := by decide +kernel
theorem dX2_knownHigh_7 : decode cX2_knownHigh 7 = .ok (.iconst 3, 1) := by decide +kernel
theorem dX2_knownHigh_8 : decode cX2_knownHigh 8 = .ok (.if_icmp .ge 30, 3) := by decide +kernel
theorem dX2_knownHigh_11 : decode cX2_knownHigh 11 = .ok (.aload_n 0, 1) := by decide +kernel
theorem dX2_knownHigh_12 : decode cX2_knownHigh 12 = .ok (.getfield 9, 3) := by decide +kernel
theorem dX2_knownHigh_15 : decode cX2_knownHigh 15 = .ok (.iload_n 2, 1) := by decide +kernel
theorem dX2_knownHigh_16 : decode cX2_knownHigh 16 = .ok (.iaload, 1) := by decide +kernel
theorem dX2_knownHigh_17 : decode cX2_knownHigh 17 = .ok (.iconst (-1), 1) := by decide +kernel
theorem dX2_knownHigh_18 : decode cX2_knownHigh 18 = .ok (.if_icmp .eq 14, 3) := by decide +kernel
theorem dX2_knownHigh_21 : decode cX2_knownHigh 21 = .ok (.iload_n 1, 1) := by decide +kernel
theorem dX2_knownHigh_22 : decode cX2_knownHigh 22 = .ok (.aload_n 0, 1) := by decide +kernel
theorem dX2_knownHigh_23 : decode cX2_knownHigh 23 = .ok (.getfield 15, 3) := by decide +kernel
theorem dX2_knownHigh_26 : decode cX2_knownHigh 26 = .ok (.iload_n 2, 1) := by decide +kernel
theorem dX2_knownHigh_27 : decode cX2_knownHigh 27 = .ok (.iaload, 1) := by decide +kernel
theorem dX2_knownHigh_28 : decode cX2_knownHigh 28 = .ok (.invokestatic 62, 3) := by decide +kernel
theorem dX2_knownHigh_31 : decode cX2_knownHigh 31 = .ok (.istore_n 1, 1) := by decide +kernel
theorem dX2_knownHigh_32 : decode cX2_knownHigh 32 = .ok (.iinc 2 1, 3) := by decide +kernel
theorem dX2_knownHigh_35 : decode cX2_knownHigh 35 = .ok (.goto (-29), 3) := by decide +kernel
theorem dX2_knownHigh_38 : decode cX2_knownHigh 38 = .ok (.iload_n 1, 1) := by decide +kernel
theorem dX2_knownHigh_39 : decode cX2_knownHigh 39 = .ok (.ireturn, 1) := by decide +kernel
theorem dX2_isDisputed_0 : decode cX2_isDisputed 0 = .ok (.aload_n 0, 1) := by decide +kernel
theorem dX2_isDisputed_1 : decode cX2_isDisputed 1 = .ok (.invokevirtual 65, 3) := by decide +kernel
theorem dX2_isDisputed_4 : decode cX2_isDisputed 4 = .ok (.aload_n 0, 1) := by decide +kernel
theorem dX2_isDisputed_5 : decode cX2_isDisputed 5 = .ok (.invokevirtual 68, 3) := by decide +kernel
theorem dX2_isDisputed_8 : decode cX2_isDisputed 8 = .ok (.if_icmp .le 7, 3) := by decide +kernel
theorem dX2_isDisputed_11 : decode cX2_isDisputed 11 = .ok (.iconst 1, 1) := by decide +kernel
theorem dX2_isDisputed_12 : decode cX2_isDisputed 12 = .ok (.goto 4, 3) := by decide +kernel
theorem dX2_isDisputed_15 : decode cX2_isDisputed 15 = .ok (.iconst 0, 1) := by decide +kernel
theorem dX2_isDisputed_16 : decode cX2_isDisputed 16 = .ok (.ireturn, 1) := by decide +kernel
theorem dX2_readsSpan_0 : decode cX2_readsSpan 0 = .ok (.iload_n 1, 1) := by decide +kernel
theorem dX2_readsSpan_1 : decode cX2_readsSpan 1 = .ok (.ifCond .eq 14, 3) := by decide +kernel
theorem dX2_readsSpan_4 : decode cX2_readsSpan 4 = .ok (.aload_n 0, 1) := by decide +kernel
theorem dX2_readsSpan_5 : decode cX2_readsSpan 5 = .ok (.invokevirtual 71, 3) := by decide +kernel
theorem dX2_readsSpan_8 : decode cX2_readsSpan 8 = .ok (.ifCond .le 7, 3) := by decide +kernel
theorem dX2_readsSpan_11 : decode cX2_readsSpan 11 = .ok (.iconst 1, 1) := by decide +kernel
theorem dX2_readsSpan_12 : decode cX2_readsSpan 12 = .ok (.goto 4, 3) := by decide +kernel
theorem dX2_readsSpan_15 : decode cX2_readsSpan 15 = .ok (.iconst 0, 1) := by decide +kernel
theorem dX2_readsSpan_16 : decode cX2_readsSpan 16 = .ok (.ireturn, 1) := by decide +kernel
theorem dX2_rootOf_0 : decode cX2_rootOf 0 = .ok (.aload_n 0, 1) := by decide +kernel
theorem dX2_rootOf_1 : decode cX2_rootOf 1 = .ok (.iload_n 1, 1) := by decide +kernel
theorem dX2_rootOf_2 : decode cX2_rootOf 2 = .ok (.invokevirtual 74, 3) := by decide +kernel
theorem dX2_rootOf_5 : decode cX2_rootOf 5 = .ok (.ifCond .ne 10, 3) := by decide +kernel
theorem dX2_rootOf_8 : decode cX2_rootOf 8 = .ok (.aload_n 0, 1) := by decide +kernel
theorem dX2_rootOf_9 : decode cX2_rootOf 9 = .ok (.invokevirtual 78, 3) := by decide +kernel
theorem dX2_rootOf_12 : decode cX2_rootOf 12 = .ok (.ifCond .eq 7, 3) := by decide +kernel
theorem dX2_rootOf_15 : decode cX2_rootOf 15 = .ok (.lconst 0, 1) := by decide +kernel
theorem dX2_rootOf_16 : decode cX2_rootOf 16 = .ok (.goto 12, 3) := by decide +kernel
theorem dX2_rootOf_19 : decode cX2_rootOf 19 = .ok (.ldc2_w 82, 3) := by decide +kernel
theorem dX2_rootOf_22 : decode cX2_rootOf 22 = .ok (.aload_n 0, 1) := by decide +kernel
theorem dX2_rootOf_23 : decode cX2_rootOf 23 = .ok (.invokevirtual 48, 3) := by decide +kernel
theorem dX2_rootOf_26 : decode cX2_rootOf 26 = .ok (.i2l, 1) := by decide +kernel
theorem dX2_rootOf_27 : decode cX2_rootOf 27 = .ok (.lmul, 1) := by decide +kernel
theorem dX2_rootOf_28 : decode cX2_rootOf 28 = .ok (.lreturn, 1) := by decide +kernel
theorem dX2_tenths_0 : decode cX2_tenths 0 = .ok (.aload_n 0, 1) := by decide +kernel
theorem dX2_tenths_1 : decode cX2_tenths 1 = .ok (.iload_n 1, 1) := by decide +kernel
theorem dX2_tenths_2 : decode cX2_tenths 2 = .ok (.invokevirtual 74, 3) := by decide +kernel
theorem dX2_tenths_5 : decode cX2_tenths 5 = .ok (.ifCond .eq 22, 3) := by decide +kernel
theorem dX2_tenths_8 : decode cX2_tenths 8 = .ok (.iload_n 1, 1) := by decide +kernel
theorem dX2_tenths_9 : decode cX2_tenths 9 = .ok (.iconst 1, 1) := by decide +kernel
theorem dX2_tenths_10 : decode cX2_tenths 10 = .ok (.if_icmp .ne 11, 3) := by decide +kernel
theorem dX2_tenths_13 : decode cX2_tenths 13 = .ok (.aload_n 0, 1) := by decide +kernel
theorem dX2_tenths_14 : decode cX2_tenths 14 = .ok (.invokevirtual 65, 3) := by decide +kernel
theorem dX2_tenths_17 : decode cX2_tenths 17 = .ok (.i2l, 1) := by decide +kernel
theorem dX2_tenths_18 : decode cX2_tenths 18 = .ok (.goto 8, 3) := by decide +kernel
theorem dX2_tenths_21 : decode cX2_tenths 21 = .ok (.aload_n 0, 1) := by decide +kernel
theorem dX2_tenths_22 : decode cX2_tenths 22 = .ok (.invokevirtual 68, 3) := by decide +kernel
theorem dX2_tenths_25 : decode cX2_tenths 25 = .ok (.i2l, 1) := by decide +kernel
theorem dX2_tenths_26 : decode cX2_tenths 26 = .ok (.lreturn, 1) := by decide +kernel
theorem dX2_tenths_27 : decode cX2_tenths 27 = .ok (.aload_n 0, 1) := by decide +kernel
theorem dX2_tenths_28 : decode cX2_tenths 28 = .ok (.invokevirtual 78, 3) := by decide +kernel
theorem dX2_tenths_31 : decode cX2_tenths 31 = .ok (.ifCond .eq 15, 3) := by decide +kernel
theorem dX2_tenths_34 : decode cX2_tenths 34 = .ok (.ldc2_w 84, 3) := by decide +kernel
theorem dX2_tenths_37 : decode cX2_tenths 37 = .ok (.aload_n 0, 1) := by decide +kernel
theorem dX2_tenths_38 : decode cX2_tenths 38 = .ok (.getfield 28, 3) := by decide +kernel
theorem dX2_tenths_41 : decode cX2_tenths 41 = .ok (.i2l, 1) := by decide +kernel
theorem dX2_tenths_42 : decode cX2_tenths 42 = .ok (.lmul, 1) := by decide +kernel
theorem dX2_tenths_43 : decode cX2_tenths 43 = .ok (.goto 17, 3) := by decide +kernel
theorem dX2_tenths_46 : decode cX2_tenths 46 = .ok (.ldc2_w 84, 3) := by decide +kernel
theorem dX2_tenths_49 : decode cX2_tenths 49 = .ok (.aload_n 0, 1) := by decide +kernel
theorem dX2_tenths_50 : decode cX2_tenths 50 = .ok (.getfield 28, 3) := by decide +kernel
theorem dX2_tenths_53 : decode cX2_tenths 53 = .ok (.aload_n 0, 1) := by decide +kernel
theorem dX2_tenths_54 : decode cX2_tenths 54 = .ok (.getfield 22, 3) := by decide +kernel
theorem dX2_tenths_57 : decode cX2_tenths 57 = .ok (.isub, 1) := by decide +kernel
theorem dX2_tenths_58 : decode cX2_tenths 58 = .ok (.i2l, 1) := by decide +kernel
theorem dX2_tenths_59 : decode cX2_tenths 59 = .ok (.lmul, 1) := by decide +kernel
theorem dX2_tenths_60 : decode cX2_tenths 60 = .ok (.lreturn, 1) := by decide +kernel
theorem dX3_init_0 : decode cX3_init 0 = .ok (.aload_n 0, 1) := by decide +kernel
theorem dX3_init_1 : decode cX3_init 1 = .ok (.invokespecial 5, 3) := by decide +kernel
theorem dX3_init_4 : decode cX3_init 4 = .ok (.aload_n 0, 1) := by decide +kernel
theorem dX3_init_5 : decode cX3_init 5 = .ok (.bipush 30, 2) := by decide +kernel
theorem dX3_init_7 : decode cX3_init 7 = .ok (.newarray .int, 2) := by decide +kernel
theorem dX3_init_9 : decode cX3_init 9 = .ok (.putfield 11, 3) := by decide +kernel
theorem dX3_init_12 : decode cX3_init 12 = .ok (.getstatic 15, 3) := by decide +kernel
theorem dX3_init_15 : decode cX3_init 15 = .ok (.iconst 0, 1) := by decide +kernel
theorem dX3_init_16 : decode cX3_init 16 = .ok (.aload_n 0, 1) := by decide +kernel
theorem dX3_init_17 : decode cX3_init 17 = .ok (.getfield 11, 3) := by decide +kernel
theorem dX3_init_20 : decode cX3_init 20 = .ok (.iconst 0, 1) := by decide +kernel
theorem dX3_init_21 : decode cX3_init 21 = .ok (.bipush 15, 2) := by decide +kernel
theorem dX3_init_23 : decode cX3_init 23 = .ok (.invokestatic 18, 3) := by decide +kernel
theorem dX3_init_26 : decode cX3_init 26 = .ok (.getstatic 15, 3) := by decide +kernel
theorem dX3_init_29 : decode cX3_init 29 = .ok (.iconst 0, 1) := by decide +kernel
theorem dX3_init_30 : decode cX3_init 30 = .ok (.aload_n 0, 1) := by decide +kernel
theorem dX3_init_31 : decode cX3_init 31 = .ok (.getfield 11, 3) := by decide +kernel
theorem dX3_init_34 : decode cX3_init 34 = .ok (.bipush 15, 2) := by decide +kernel
theorem dX3_init_36 : decode cX3_init 36 = .ok (.bipush 15, 2) := by decide +kernel
theorem dX3_init_38 : decode cX3_init 38 = .ok (.invokestatic 18, 3) := by decide +kernel
theorem dX3_init_41 : decode cX3_init 41 = .ok (.aload_n 0, 1) := by decide +kernel
theorem dX3_init_42 : decode cX3_init 42 = .ok (.bipush 19, 2) := by decide +kernel
theorem dX3_init_44 : decode cX3_init 44 = .ok (.newarray .long, 2) := by decide +kernel
theorem dX3_init_46 : decode cX3_init 46 = .ok (.putfield 24, 3) := by decide +kernel
theorem dX3_init_49 : decode cX3_init 49 = .ok (.aload_n 0, 1) := by decide +kernel
theorem dX3_init_50 : decode cX3_init 50 = .ok (.bipush 19, 2) := by decide +kernel
theorem dX3_init_52 : decode cX3_init 52 = .ok (.newarray .long, 2) := by decide +kernel
theorem dX3_init_54 : decode cX3_init 54 = .ok (.putfield 28, 3) := by decide +kernel
theorem dX3_init_57 : decode cX3_init 57 = .ok (.aload_n 0, 1) := by decide +kernel
theorem dX3_init_58 : decode cX3_init 58 = .ok (.bipush 19, 2) := by decide +kernel
theorem dX3_init_60 : decode cX3_init 60 = .ok (.newarray .int, 2) := by decide +kernel
theorem dX3_init_62 : decode cX3_init 62 = .ok (.putfield 31, 3) := by decide +kernel
theorem dX3_init_65 : decode cX3_init 65 = .ok (.return_, 1) := by decide +kernel
theorem dX3_isLead_0 : decode cX3_isLead 0 = .ok (.iload_n 0, 1) := by decide +kernel
theorem dX3_isLead_1 : decode cX3_isLead 1 = .ok (.bipush (-9), 2) := by decide +kernel
theorem dX3_isLead_3 : decode cX3_isLead 3 = .ok (.bipush 9, 2) := by decide +kernel
theorem dX3_isLead_5 : decode cX3_isLead 5 = .ok (.invokestatic 34, 3) := by decide +kernel
theorem dX3_isLead_8 : decode cX3_isLead 8 = .ok (.ireturn, 1) := by decide +kernel
theorem dX3_firstWeight_0 : decode cX3_firstWeight 0 = .ok (.iload_n 0, 1) := by decide +kernel
theorem dX3_firstWeight_1 : decode cX3_firstWeight 1 = .ok (.iconst 3, 1) := by decide +kernel
theorem dX3_firstWeight_2 : decode cX3_firstWeight 2 = .ok (.imul, 1) := by decide +kernel
theorem dX3_firstWeight_3 : decode cX3_firstWeight 3 = .ok (.iload_n 1, 1) := by decide +kernel
theorem dX3_firstWeight_4 : decode cX3_firstWeight 4 = .ok (.iadd, 1) := by decide +kernel
theorem dX3_firstWeight_5 : decode cX3_firstWeight 5 = .ok (.iconst 5, 1) := by decide +kernel
theorem dX3_firstWeight_6 : decode cX3_firstWeight 6 = .ok (.imul, 1) := by decide +kernel
theorem dX3_firstWeight_7 : decode cX3_firstWeight 7 = .ok (.ireturn, 1) := by decide +kernel
theorem dX3_chance_0 : decode cX3_chance 0 = .ok (.iload_n 1, 1) := by decide +kernel
theorem dX3_chance_1 : decode cX3_chance 1 = .ok (.invokestatic 38, 3) := by decide +kernel
theorem dX3_chance_4 : decode cX3_chance 4 = .ok (.ifCond .eq 15, 3) := by decide +kernel
theorem dX3_chance_7 : decode cX3_chance 7 = .ok (.aload_n 0, 1) := by decide +kernel
theorem dX3_chance_8 : decode cX3_chance 8 = .ok (.getfield 24, 3) := by decide +kernel
theorem dX3_chance_11 : decode cX3_chance 11 = .ok (.iload_n 1, 1) := by decide +kernel
theorem dX3_chance_12 : decode cX3_chance 12 = .ok (.bipush 9, 2) := by decide +kernel
theorem dX3_chance_14 : decode cX3_chance 14 = .ok (.iadd, 1) := by decide +kernel
theorem dX3_chance_15 : decode cX3_chance 15 = .ok (.laload, 1) := by decide +kernel
theorem dX3_chance_16 : decode cX3_chance 16 = .ok (.goto 4, 3) := by decide +kernel
theorem dX3_chance_19 : decode cX3_chance 19 = .ok (.lconst 0, 1) := by decide +kernel
theorem dX3_chance_20 : decode cX3_chance 20 = .ok (.lreturn, 1) := by decide +kernel
theorem dX3_bestAct_0 : decode cX3_bestAct 0 = .ok (.iload_n 1, 1) := by decide +kernel
theorem dX3_bestAct_1 : decode cX3_bestAct 1 = .ok (.invokestatic 38, 3) := by decide +kernel
theorem dX3_bestAct_4 : decode cX3_bestAct 4 = .ok (.ifCond .eq 15, 3) := by decide +kernel
theorem dX3_bestAct_7 : decode cX3_bestAct 7 = .ok (.aload_n 0, 1) := by decide +kernel
theorem dX3_bestAct_8 : decode cX3_bestAct 8 = .ok (.getfield 31, 3) := by decide +kernel
theorem dX3_bestAct_11 : decode cX3_bestAct 11 = .ok (.iload_n 1, 1) := by decide +kernel
theorem dX3_bestAct_12 : decode cX3_bestAct 12 = .ok (.bipush 9, 2) := by decide +kernel
theorem dX3_bestAct_14 : decode cX3_bestAct 14 = .ok (.iadd, 1) := by decide +kernel
theorem dX3_bestAct_15 : decode cX3_bestAct 15 = .ok (.iaload, 1) := by decide +kernel
theorem dX3_bestAct_16 : decode cX3_bestAct 16 = .ok (.goto 4, 3) := by decide +kernel
theorem dX3_bestAct_19 : decode cX3_bestAct 19 = .ok (.iconst (-1), 1) := by decide +kernel
theorem dX3_bestAct_20 : decode cX3_bestAct 20 = .ok (.ireturn, 1) := by decide +kernel
theorem dX3_work_0 : decode cX3_work 0 = .ok (.aload_n 0, 1) := by decide +kernel
theorem dX3_work_1 : decode cX3_work 1 = .ok (.lconst 1, 1) := by decide +kernel
theorem dX3_work_2 : decode cX3_work 2 = .ok (.putfield 42, 3) := by decide +kernel
theorem dX3_work_5 : decode cX3_work 5 = .ok (.iconst 0, 1) := by decide +kernel
theorem dX3_work_6 : decode cX3_work 6 = .ok (.istore 4, 2) := by decide +kernel
theorem dX3_work_8 : decode cX3_work 8 = .ok (.iload 4, 2) := by decide +kernel
theorem dX3_work_10 : decode cX3_work 10 = .ok (.bipush 19, 2) := by decide +kernel
theorem dX3_work_12 : decode cX3_work 12 = .ok (.if_icmp .ge 30, 3) := by decide +kernel
theorem dX3_work_15 : decode cX3_work 15 = .ok (.aload_n 0, 1) := by decide +kernel
theorem dX3_work_16 : decode cX3_work 16 = .ok (.getfield 24, 3) := by decide +kernel
theorem dX3_work_19 : decode cX3_work 19 = .ok (.iload 4, 2) := by decide +kernel
theorem dX3_work_21 : decode cX3_work 21 = .ok (.iload 4, 2) := by decide +kernel
theorem dX3_work_23 : decode cX3_work 23 = .ok (.bipush 9, 2) := by decide +kernel
theorem dX3_work_25 : decode cX3_work 25 = .ok (.isub, 1) := by decide +kernel
theorem dX3_work_26 : decode cX3_work 26 = .ok (.iload_n 3, 1) := by decide +kernel
theorem dX3_work_27 : decode cX3_work 27 = .ok (.if_icmp .lt 7, 3) := by decide +kernel
theorem dX3_work_30 : decode cX3_work 30 = .ok (.lconst 1, 1) := by decide +kernel
theorem dX3_work_31 : decode cX3_work 31 = .ok (.goto 4, 3) := by decide +kernel
theorem dX3_work_34 : decode cX3_work 34 = .ok (.lconst 0, 1) := by decide +kernel
theorem dX3_work_35 : decode cX3_work 35 = .ok (.lastore, 1) := by decide +kernel
theorem dX3_work_36 : decode cX3_work 36 = .ok (.iinc 4 1, 3) := by decide +kernel
theorem dX3_work_39 : decode cX3_work 39 = .ok (.goto (-31), 3) := by decide +kernel
theorem dX3_work_42 : decode cX3_work 42 = .ok (.iconst 1, 1) := by decide +kernel
theorem dX3_work_43 : decode cX3_work 43 = .ok (.istore 4, 2) := by decide +kernel
theorem dX3_work_45 : decode cX3_work 45 = .ok (.iload 4, 2) := by decide +kernel
theorem dX3_work_47 : decode cX3_work 47 = .ok (.iload_n 1, 1) := by decide +kernel
theorem dX3_work_48 : decode cX3_work 48 = .ok (.if_icmp .gt 70, 3) := by decide +kernel
theorem dX3_work_51 : decode cX3_work 51 = .ok (.iload_n 2, 1) := by decide +kernel
theorem dX3_work_52 : decode cX3_work 52 = .ok (.iload_n 1, 1) := by decide +kernel
theorem dX3_work_53 : decode cX3_work 53 = .ok (.iadd, 1) := by decide +kernel
theorem dX3_work_54 : decode cX3_work 54 = .ok (.iload 4, 2) := by decide +kernel
theorem dX3_work_56 : decode cX3_work 56 = .ok (.isub, 1) := by decide +kernel
theorem dX3_work_57 : decode cX3_work 57 = .ok (.iconst 2, 1) := by decide +kernel
theorem dX3_work_58 : decode cX3_work 58 = .ok (.irem, 1) := by decide +kernel
theorem dX3_work_59 : decode cX3_work 59 = .ok (.istore 5, 2) := by decide +kernel
theorem dX3_work_61 : decode cX3_work 61 = .ok (.iconst 0, 1) := by decide +kernel
theorem dX3_work_62 : decode cX3_work 62 = .ok (.istore 6, 2) := by decide +kernel
theorem dX3_work_64 : decode cX3_work 64 = .ok (.iload 6, 2) := by decide +kernel
theorem dX3_work_66 : decode cX3_work 66 = .ok (.bipush 19, 2) := by decide +kernel
theorem dX3_work_68 : decode cX3_work 68 = .ok (.if_icmp .ge 17, 3) := by decide +kernel
theorem dX3_work_71 : decode cX3_work 71 = .ok (.aload_n 0, 1) := by decide +kernel
theorem dX3_work_72 : decode cX3_work 72 = .ok (.iload 6, 2) := by decide +kernel
theorem dX3_work_74 : decode cX3_work 74 = .ok (.iload 5, 2) := by decide +kernel
theorem dX3_work_76 : decode cX3_work 76 = .ok (.invokevirtual 46, 3) := by decide +kernel
theorem dX3_work_79 : decode cX3_work 79 = .ok (.iinc 6 1, 3) := by decide +kernel
theorem dX3_work_82 : decode cX3_work 82 = .ok (.goto (-18), 3) := by decide +kernel
theorem dX3_work_85 : decode cX3_work 85 = .ok (.aload_n 0, 1) := by decide +kernel
theorem dX3_work_86 : decode cX3_work 86 = .ok (.getfield 28, 3) := by decide +kernel
theorem dX3_work_89 : decode cX3_work 89 = .ok (.iconst 0, 1) := by decide +kernel
theorem dX3_work_90 : decode cX3_work 90 = .ok (.aload_n 0, 1) := by decide +kernel
theorem dX3_work_91 : decode cX3_work 91 = .ok (.getfield 24, 3) := by decide +kernel
theorem dX3_work_94 : decode cX3_work 94 = .ok (.iconst 0, 1) := by decide +kernel
theorem dX3_work_95 : decode cX3_work 95 = .ok (.bipush 19, 2) := by decide +kernel
theorem dX3_work_97 : decode cX3_work 97 = .ok (.invokestatic 18, 3) := by decide +kernel
theorem dX3_work_100 : decode cX3_work 100 = .ok (.aload_n 0, 1) := by decide +kernel
theorem dX3_work_101 : decode cX3_work 101 = .ok (.dup, 1) := by decide +kernel
theorem dX3_work_102 : decode cX3_work 102 = .ok (.getfield 42, 3) := by decide +kernel
theorem dX3_work_105 : decode cX3_work 105 = .ok (.ldc2_w 50, 3) := by decide +kernel
theorem dX3_work_108 : decode cX3_work 108 = .ok (.lmul, 1) := by decide +kernel
theorem dX3_work_109 : decode cX3_work 109 = .ok (.putfield 42, 3) := by decide +kernel
theorem dX3_work_112 : decode cX3_work 112 = .ok (.iinc 4 1, 3) := by decide +kernel
theorem dX3_work_115 : decode cX3_work 115 = .ok (.goto (-70), 3) := by decide +kernel
theorem dX3_work_118 : decode cX3_work 118 = .ok (.return_, 1) := by decide +kernel
theorem dX3_chooseAct_0 : decode cX3_chooseAct 0 = .ok (.aload_n 0, 1) := by decide +kernel
theorem dX3_chooseAct_1 : decode cX3_chooseAct 1 = .ok (.getfield 31, 3) := by decide +kernel
theorem dX3_chooseAct_4 : decode cX3_chooseAct 4 = .ok (.iload_n 1, 1) := by decide +kernel
theorem dX3_chooseAct_5 : decode cX3_chooseAct 5 = .ok (.iconst 0, 1) := by decide +kernel
theorem dX3_chooseAct_6 : decode cX3_chooseAct 6 = .ok (.iastore, 1) := by decide +kernel
theorem dX3_chooseAct_7 : decode cX3_chooseAct 7 = .ok (.aload_n 0, 1) := by decide +kernel
theorem dX3_chooseAct_8 : decode cX3_chooseAct 8 = .ok (.getfield 28, 3) := by decide +kernel
theorem dX3_chooseAct_11 : decode cX3_chooseAct 11 = .ok (.iload_n 1, 1) := by decide +kernel
theorem dX3_chooseAct_12 : decode cX3_chooseAct 12 = .ok (.aload_n 0, 1) := by decide +kernel
theorem dX3_chooseAct_13 : decode cX3_chooseAct 13 = .ok (.iload_n 1, 1) := by decide +kernel
theorem dX3_chooseAct_14 : decode cX3_chooseAct 14 = .ok (.iload_n 2, 1) := by decide +kernel
theorem dX3_chooseAct_15 : decode cX3_chooseAct 15 = .ok (.iconst 0, 1) := by decide +kernel
theorem dX3_chooseAct_16 : decode cX3_chooseAct 16 = .ok (.invokevirtual 52, 3) := by decide +kernel
theorem dX3_chooseAct_19 : decode cX3_chooseAct 19 = .ok (.lastore, 1) := by decide +kernel
theorem dX3_chooseAct_20 : decode cX3_chooseAct 20 = .ok (.iconst 1, 1) := by decide +kernel
theorem dX3_chooseAct_21 : decode cX3_chooseAct 21 = .ok (.istore_n 3, 1) := by decide +kernel
theorem dX3_chooseAct_22 : decode cX3_chooseAct 22 = .ok (.iload_n 3, 1) := by decide +kernel
theorem dX3_chooseAct_23 : decode cX3_chooseAct 23 = .ok (.iconst 3, 1) := by decide +kernel
theorem dX3_chooseAct_24 : decode cX3_chooseAct 24 = .ok (.if_icmp .ge 81, 3) := by decide +kernel
theorem dX3_chooseAct_27 : decode cX3_chooseAct 27 = .ok (.aload_n 0, 1) := by decide +kernel
theorem dX3_chooseAct_28 : decode cX3_chooseAct 28 = .ok (.iload_n 1, 1) := by decide +kernel
theorem dX3_chooseAct_29 : decode cX3_chooseAct 29 = .ok (.iload_n 2, 1) := by decide +kernel
theorem dX3_chooseAct_30 : decode cX3_chooseAct 30 = .ok (.iload_n 3, 1) := by decide +kernel
theorem dX3_chooseAct_31 : decode cX3_chooseAct 31 = .ok (.invokevirtual 52, 3) := by decide +kernel
theorem dX3_chooseAct_34 : decode cX3_chooseAct 34 = .ok (.lstore 4, 2) := by decide +kernel
theorem dX3_chooseAct_36 : decode cX3_chooseAct 36 = .ok (.iload_n 2, 1) := by decide +kernel
theorem dX3_chooseAct_37 : decode cX3_chooseAct 37 = .ok (.ifCond .ne 23, 3) := by decide +kernel
theorem dX3_chooseAct_40 : decode cX3_chooseAct 40 = .ok (.lload 4, 2) := by decide +kernel
theorem dX3_chooseAct_42 : decode cX3_chooseAct 42 = .ok (.aload_n 0, 1) := by decide +kernel
theorem dX3_chooseAct_43 : decode cX3_chooseAct 43 = .ok (.getfield 28, 3) := by decide +kernel
theorem dX3_chooseAct_46 : decode cX3_chooseAct 46 = .ok (.iload_n 1, 1) := by decide +kernel
theorem dX3_chooseAct_47 : decode cX3_chooseAct 47 = .ok (.laload, 1) := by decide +kernel
theorem dX3_chooseAct_48 : decode cX3_chooseAct 48 = .ok (.lcmp, 1) := by decide +kernel
theorem dX3_chooseAct_49 : decode cX3_chooseAct 49 = .ok (.ifCond .le 7, 3) := by decide +kernel
theorem dX3_chooseAct_52 : decode cX3_chooseAct 52 = .ok (.iconst 1, 1) := by decide +kernel
theorem dX3_chooseAct_53 : decode cX3_chooseAct 53 = .ok (.goto 24, 3) := by decide +kernel
theorem dX3_chooseAct_56 : decode cX3_chooseAct 56 = .ok (.iconst 0, 1) := by decide +kernel
theorem dX3_chooseAct_57 : decode cX3_chooseAct 57 = .ok (.goto 20, 3) := by decide +kernel
theorem dX3_chooseAct_60 : decode cX3_chooseAct 60 = .ok (.lload 4, 2) := by decide +kernel
theorem dX3_chooseAct_62 : decode cX3_chooseAct 62 = .ok (.aload_n 0, 1) := by decide +kernel
theorem dX3_chooseAct_63 : decode cX3_chooseAct 63 = .ok (.getfield 28, 3) := by decide +kernel
theorem dX3_chooseAct_66 : decode cX3_chooseAct 66 = .ok (.iload_n 1, 1) := by decide +kernel
theorem dX3_chooseAct_67 : decode cX3_chooseAct 67 = .ok (.laload, 1) := by decide +kernel
theorem dX3_chooseAct_68 : decode cX3_chooseAct 68 = .ok (.lcmp, 1) := by decide +kernel
theorem dX3_chooseAct_69 : decode cX3_chooseAct 69 = .ok (.ifCond .ge 7, 3) := by decide +kernel
theorem dX3_chooseAct_72 : decode cX3_chooseAct 72 = .ok (.iconst 1, 1) := by decide +kernel
theorem dX3_chooseAct_73 : decode cX3_chooseAct 73 = .ok (.goto 4, 3) := by decide +kernel
theorem dX3_chooseAct_76 : decode cX3_chooseAct 76 = .ok (.iconst 0, 1) := by decide +kernel
theorem dX3_chooseAct_77 : decode cX3_chooseAct 77 = .ok (.istore 6, 2) := by decide +kernel
theorem dX3_chooseAct_79 : decode cX3_chooseAct 79 = .ok (.iload 6, 2) := by decide +kernel
theorem dX3_chooseAct_81 : decode cX3_chooseAct 81 = .ok (.ifCond .eq 18, 3) := by decide +kernel
theorem dX3_chooseAct_84 : decode cX3_chooseAct 84 = .ok (.aload_n 0, 1) := by decide +kernel
theorem dX3_chooseAct_85 : decode cX3_chooseAct 85 = .ok (.getfield 31, 3) := by decide +kernel
theorem dX3_chooseAct_88 : decode cX3_chooseAct 88 = .ok (.iload_n 1, 1) := by decide +kernel
theorem dX3_chooseAct_89 : decode cX3_chooseAct 89 = .ok (.iload_n 3, 1) := by decide +kernel
theorem dX3_chooseAct_90 : decode cX3_chooseAct 90 = .ok (.iastore, 1) := by decide +kernel
theorem dX3_chooseAct_91 : decode cX3_chooseAct 91 = .ok (.aload_n 0, 1) := by decide +kernel
theorem dX3_chooseAct_92 : decode cX3_chooseAct 92 = .ok (.getfield 28, 3) := by decide +kernel
theorem dX3_chooseAct_95 : decode cX3_chooseAct 95 = .ok (.iload_n 1, 1) := by decide +kernel
theorem dX3_chooseAct_96 : decode cX3_chooseAct 96 = .ok (.lload 4, 2) := by decide +kernel
theorem dX3_chooseAct_98 : decode cX3_chooseAct 98 = .ok (.lastore, 1) := by decide +kernel
theorem dX3_chooseAct_99 : decode cX3_chooseAct 99 = .ok (.iinc 3 1, 3) := by decide +kernel
theorem dX3_chooseAct_102 : decode cX3_chooseAct 102 = .ok (.goto (-80), 3) := by decide +kernel
theorem dX3_chooseAct_105 : decode cX3_chooseAct 105 = .ok (.return_, 1) := by decide +kernel
theorem dX3_chanceBy_0 : decode cX3_chanceBy 0 = .ok (.iload_n 2, 1) := by decide +kernel
theorem dX3_chanceBy_1 : decode cX3_chanceBy 1 = .ok (.iload_n 3, 1) := by decide +kernel
theorem dX3_chanceBy_2 : decode cX3_chanceBy 2 = .ok (.invokestatic 56, 3) := by decide +kernel
theorem dX3_chanceBy_5 : decode cX3_chanceBy 5 = .ok (.istore 4, 2) := by decide +kernel
theorem dX3_chanceBy_7 : decode cX3_chanceBy 7 = .ok (.lconst 0, 1) := by decide +kernel
theorem dX3_chanceBy_8 : decode cX3_chanceBy 8 = .ok (.lstore 5, 2) := by decide +kernel
theorem dX3_chanceBy_10 : decode cX3_chanceBy 10 = .ok (.iconst 0, 1) := by decide +kernel
theorem dX3_chanceBy_11 : decode cX3_chanceBy 11 = .ok (.istore 7, 2) := by decide +kernel
theorem dX3_chanceBy_13 : decode cX3_chanceBy 13 = .ok (.iload 7, 2) := by decide +kernel
theorem dX3_chanceBy_15 : decode cX3_chanceBy 15 = .ok (.iconst 5, 1) := by decide +kernel
theorem dX3_chanceBy_16 : decode cX3_chanceBy 16 = .ok (.if_icmp .ge 65, 3) := by decide +kernel
theorem dX3_chanceBy_19 : decode cX3_chanceBy 19 = .ok (.iload_n 2, 1) := by decide +kernel
theorem dX3_chanceBy_20 : decode cX3_chanceBy 20 = .ok (.ifCond .ne 10, 3) := by decide +kernel
theorem dX3_chanceBy_23 : decode cX3_chanceBy 23 = .ok (.iload 7, 2) := by decide +kernel
theorem dX3_chanceBy_25 : decode cX3_chanceBy 25 = .ok (.iconst 2, 1) := by decide +kernel
theorem dX3_chanceBy_26 : decode cX3_chanceBy 26 = .ok (.isub, 1) := by decide +kernel
theorem dX3_chanceBy_27 : decode cX3_chanceBy 27 = .ok (.goto 7, 3) := by decide +kernel
theorem dX3_chanceBy_30 : decode cX3_chanceBy 30 = .ok (.iconst 2, 1) := by decide +kernel
theorem dX3_chanceBy_31 : decode cX3_chanceBy 31 = .ok (.iload 7, 2) := by decide +kernel
theorem dX3_chanceBy_33 : decode cX3_chanceBy 33 = .ok (.isub, 1) := by decide +kernel
theorem dX3_chanceBy_34 : decode cX3_chanceBy 34 = .ok (.istore 8, 2) := by decide +kernel
theorem dX3_chanceBy_36 : decode cX3_chanceBy 36 = .ok (.iconst 0, 1) := by decide +kernel
theorem dX3_chanceBy_37 : decode cX3_chanceBy 37 = .ok (.bipush 18, 2) := by decide +kernel
theorem dX3_chanceBy_39 : decode cX3_chanceBy 39 = .ok (.iload_n 1, 1) := by decide +kernel
theorem dX3_chanceBy_40 : decode cX3_chanceBy 40 = .ok (.iload 8, 2) := by decide +kernel
theorem dX3_chanceBy_42 : decode cX3_chanceBy 42 = .ok (.iadd, 1) := by decide +kernel
theorem dX3_chanceBy_43 : decode cX3_chanceBy 43 = .ok (.invokestatic 60, 3) := by decide +kernel
theorem dX3_chanceBy_46 : decode cX3_chanceBy 46 = .ok (.invokestatic 65, 3) := by decide +kernel
theorem dX3_chanceBy_49 : decode cX3_chanceBy 49 = .ok (.istore 9, 2) := by decide +kernel
theorem dX3_chanceBy_51 : decode cX3_chanceBy 51 = .ok (.lload 5, 2) := by decide +kernel
theorem dX3_chanceBy_53 : decode cX3_chanceBy 53 = .ok (.aload_n 0, 1) := by decide +kernel
theorem dX3_chanceBy_54 : decode cX3_chanceBy 54 = .ok (.getfield 11, 3) := by decide +kernel
theorem dX3_chanceBy_57 : decode cX3_chanceBy 57 = .ok (.iload 4, 2) := by decide +kernel
theorem dX3_chanceBy_59 : decode cX3_chanceBy 59 = .ok (.iload 7, 2) := by decide +kernel
theorem dX3_chanceBy_61 : decode cX3_chanceBy 61 = .ok (.iadd, 1) := by decide +kernel
theorem dX3_chanceBy_62 : decode cX3_chanceBy 62 = .ok (.iaload, 1) := by decide +kernel
theorem dX3_chanceBy_63 : decode cX3_chanceBy 63 = .ok (.i2l, 1) := by decide +kernel
theorem dX3_chanceBy_64 : decode cX3_chanceBy 64 = .ok (.aload_n 0, 1) := by decide +kernel
theorem dX3_chanceBy_65 : decode cX3_chanceBy 65 = .ok (.getfield 24, 3) := by decide +kernel
theorem dX3_chanceBy_68 : decode cX3_chanceBy 68 = .ok (.iload 9, 2) := by decide +kernel
theorem dX3_chanceBy_70 : decode cX3_chanceBy 70 = .ok (.laload, 1) := by decide +kernel
theorem dX3_chanceBy_71 : decode cX3_chanceBy 71 = .ok (.lmul, 1) := by decide +kernel
theorem dX3_chanceBy_72 : decode cX3_chanceBy 72 = .ok (.ladd, 1) := by decide +kernel
theorem dX3_chanceBy_73 : decode cX3_chanceBy 73 = .ok (.lstore 5, 2) := by decide +kernel
theorem dX3_chanceBy_75 : decode cX3_chanceBy 75 = .ok (.iinc 7 1, 3) := by decide +kernel
theorem dX3_chanceBy_78 : decode cX3_chanceBy 78 = .ok (.goto (-65), 3) := by decide +kernel
theorem dX3_chanceBy_81 : decode cX3_chanceBy 81 = .ok (.lload 5, 2) := by decide +kernel
theorem dX3_chanceBy_83 : decode cX3_chanceBy 83 = .ok (.lreturn, 1) := by decide +kernel
theorem dX4_init_0 : decode cX4_init 0 = .ok (.aload_n 0, 1) := by decide +kernel
theorem dX4_init_1 : decode cX4_init 1 = .ok (.invokespecial 1, 3) := by decide +kernel
theorem dX4_init_4 : decode cX4_init 4 = .ok (.aload_n 0, 1) := by decide +kernel
theorem dX4_init_5 : decode cX4_init 5 = .ok (.iload_n 1, 1) := by decide +kernel
theorem dX4_init_6 : decode cX4_init 6 = .ok (.putfield 7, 3) := by decide +kernel
theorem dX4_init_9 : decode cX4_init 9 = .ok (.aload_n 0, 1) := by decide +kernel
theorem dX4_init_10 : decode cX4_init 10 = .ok (.iload_n 2, 1) := by decide +kernel
theorem dX4_init_11 : decode cX4_init 11 = .ok (.putfield 13, 3) := by decide +kernel
theorem dX4_init_14 : decode cX4_init 14 = .ok (.aload_n 0, 1) := by decide +kernel
theorem dX4_init_15 : decode cX4_init 15 = .ok (.iload_n 3, 1) := by decide +kernel
theorem dX4_init_16 : decode cX4_init 16 = .ok (.putfield 16, 3) := by decide +kernel
theorem dX4_init_19 : decode cX4_init 19 = .ok (.aload_n 0, 1) := by decide +kernel
theorem dX4_init_20 : decode cX4_init 20 = .ok (.bipush 40, 2) := by decide +kernel
theorem dX4_init_22 : decode cX4_init 22 = .ok (.newarray .int, 2) := by decide +kernel
theorem dX4_init_24 : decode cX4_init 24 = .ok (.putfield 19, 3) := by decide +kernel
theorem dX4_init_27 : decode cX4_init 27 = .ok (.return_, 1) := by decide +kernel
theorem dX4_work_0 : decode cX4_work 0 = .ok (.aload_n 0, 1) := by decide +kernel
theorem dX4_work_1 : decode cX4_work 1 = .ok (.iconst 0, 1) := by decide +kernel
theorem dX4_work_2 : decode cX4_work 2 = .ok (.putfield 23, 3) := by decide +kernel
theorem dX4_work_5 : decode cX4_work 5 = .ok (.aload_n 0, 1) := by decide +kernel
theorem dX4_work_6 : decode cX4_work 6 = .ok (.iconst 0, 1) := by decide +kernel
theorem dX4_work_7 : decode cX4_work 7 = .ok (.putfield 26, 3) := by decide +kernel
theorem dX4_work_10 : decode cX4_work 10 = .ok (.aload_n 0, 1) := by decide +kernel
theorem dX4_work_11 : decode cX4_work 11 = .ok (.iconst 0, 1) := by decide +kernel
theorem dX4_work_12 : decode cX4_work 12 = .ok (.putfield 29, 3) := by decide +kernel
theorem dX4_work_15 : decode cX4_work 15 = .ok (.aload_n 0, 1) := by decide +kernel
theorem dX4_work_16 : decode cX4_work 16 = .ok (.iconst 0, 1) := by decide +kernel
theorem dX4_work_17 : decode cX4_work 17 = .ok (.putfield 32, 3) := by decide +kernel
theorem dX4_work_20 : decode cX4_work 20 = .ok (.aload_n 0, 1) := by decide +kernel
theorem dX4_work_21 : decode cX4_work 21 = .ok (.getfield 23, 3) := by decide +kernel
theorem dX4_work_24 : decode cX4_work 24 = .ok (.aload_n 0, 1) := by decide +kernel
theorem dX4_work_25 : decode cX4_work 25 = .ok (.getfield 35, 3) := by decide +kernel
theorem dX4_work_28 : decode cX4_work 28 = .ok (.if_icmp .ge 98, 3) := by decide +kernel
theorem dX4_work_31 : decode cX4_work 31 = .ok (.aload_n 0, 1) := by decide +kernel
theorem dX4_work_32 : decode cX4_work 32 = .ok (.getfield 32, 3) := by decide +kernel
theorem dX4_work_35 : decode cX4_work 35 = .ok (.ifCond .ne 91, 3) := by decide +kernel
theorem dX4_work_38 : decode cX4_work 38 = .ok (.aload_n 0, 1) := by decide +kernel
theorem dX4_work_39 : decode cX4_work 39 = .ok (.getfield 16, 3) := by decide +kernel
theorem dX4_work_42 : decode cX4_work 42 = .ok (.ifCond .eq 20, 3) := by decide +kernel
theorem dX4_work_45 : decode cX4_work 45 = .ok (.aload_n 0, 1) := by decide +kernel
theorem dX4_work_46 : decode cX4_work 46 = .ok (.getfield 16, 3) := by decide +kernel
theorem dX4_work_49 : decode cX4_work 49 = .ok (.iconst 2, 1) := by decide +kernel
theorem dX4_work_50 : decode cX4_work 50 = .ok (.if_icmp .ne 16, 3) := by decide +kernel
theorem dX4_work_53 : decode cX4_work 53 = .ok (.aload_n 0, 1) := by decide +kernel
theorem dX4_work_54 : decode cX4_work 54 = .ok (.getfield 23, 3) := by decide +kernel
theorem dX4_work_57 : decode cX4_work 57 = .ok (.iconst 2, 1) := by decide +kernel
theorem dX4_work_58 : decode cX4_work 58 = .ok (.irem, 1) := by decide +kernel
theorem dX4_work_59 : decode cX4_work 59 = .ok (.ifCond .ne 7, 3) := by decide +kernel
theorem dX4_work_62 : decode cX4_work 62 = .ok (.iconst 1, 1) := by decide +kernel
theorem dX4_work_63 : decode cX4_work 63 = .ok (.goto 4, 3) := by decide +kernel
theorem dX4_work_66 : decode cX4_work 66 = .ok (.iconst 0, 1) := by decide +kernel
theorem dX4_work_67 : decode cX4_work 67 = .ok (.istore_n 3, 1) := by decide +kernel
theorem dX4_work_68 : decode cX4_work 68 = .ok (.aload_n 0, 1) := by decide +kernel
theorem dX4_work_69 : decode cX4_work 69 = .ok (.aload_n 0, 1) := by decide +kernel
theorem dX4_work_70 : decode cX4_work 70 = .ok (.getfield 19, 3) := by decide +kernel
theorem dX4_work_73 : decode cX4_work 73 = .ok (.aload_n 0, 1) := by decide +kernel
theorem dX4_work_74 : decode cX4_work 74 = .ok (.getfield 23, 3) := by decide +kernel
theorem dX4_work_77 : decode cX4_work 77 = .ok (.iaload, 1) := by decide +kernel
theorem dX4_work_78 : decode cX4_work 78 = .ok (.invokevirtual 38, 3) := by decide +kernel
theorem dX4_work_81 : decode cX4_work 81 = .ok (.aload_n 0, 1) := by decide +kernel
theorem dX4_work_82 : decode cX4_work 82 = .ok (.dup, 1) := by decide +kernel
theorem dX4_work_83 : decode cX4_work 83 = .ok (.getfield 23, 3) := by decide +kernel
theorem dX4_work_86 : decode cX4_work 86 = .ok (.iconst 1, 1) := by decide +kernel
theorem dX4_work_87 : decode cX4_work 87 = .ok (.iadd, 1) := by decide +kernel
theorem dX4_work_88 : decode cX4_work 88 = .ok (.putfield 23, 3) := by decide +kernel
theorem dX4_work_91 : decode cX4_work 91 = .ok (.aload_n 0, 1) := by decide +kernel
theorem dX4_work_92 : decode cX4_work 92 = .ok (.getfield 26, 3) := by decide +kernel
theorem dX4_work_95 : decode cX4_work 95 = .ok (.aload_n 0, 1) := by decide +kernel
theorem dX4_work_96 : decode cX4_work 96 = .ok (.getfield 29, 3) := by decide +kernel
theorem dX4_work_99 : decode cX4_work 99 = .ok (.invokestatic 42, 3) := by decide +kernel
theorem dX4_work_102 : decode cX4_work 102 = .ok (.iload_n 3, 1) := by decide +kernel
theorem dX4_work_103 : decode cX4_work 103 = .ok (.ifCond .eq 7, 3) := by decide +kernel
theorem dX4_work_106 : decode cX4_work 106 = .ok (.iload_n 1, 1) := by decide +kernel
theorem dX4_work_107 : decode cX4_work 107 = .ok (.goto 4, 3) := by decide +kernel
theorem dX4_work_110 : decode cX4_work 110 = .ok (.iload_n 2, 1) := by decide +kernel
theorem dX4_work_111 : decode cX4_work 111 = .ok (.if_icmp .lt 12, 3) := by decide +kernel
theorem dX4_work_114 : decode cX4_work 114 = .ok (.aload_n 0, 1) := by decide +kernel
theorem dX4_work_115 : decode cX4_work 115 = .ok (.aload_n 0, 1) := by decide +kernel
theorem dX4_work_116 : decode cX4_work 116 = .ok (.iconst 0, 1) := by decide +kernel
theorem dX4_work_117 : decode cX4_work 117 = .ok (.invokevirtual 48, 3) := by decide +kernel
theorem dX4_work_120 : decode cX4_work 120 = .ok (.putfield 32, 3) := by decide +kernel
theorem dX4_work_123 : decode cX4_work 123 = .ok (.goto (-103), 3) := by decide +kernel
theorem dX4_work_126 : decode cX4_work 126 = .ok (.aload_n 0, 1) := by decide +kernel
theorem dX4_work_127 : decode cX4_work 127 = .ok (.getfield 32, 3) := by decide +kernel
theorem dX4_work_130 : decode cX4_work 130 = .ok (.ifCond .ne 19, 3) := by decide +kernel
theorem dX4_work_133 : decode cX4_work 133 = .ok (.aload_n 0, 1) := by decide +kernel
theorem dX4_work_134 : decode cX4_work 134 = .ok (.getfield 52, 3) := by decide +kernel
theorem dX4_work_137 : decode cX4_work 137 = .ok (.ifCond .eq 12, 3) := by decide +kernel
theorem dX4_work_140 : decode cX4_work 140 = .ok (.aload_n 0, 1) := by decide +kernel
theorem dX4_work_141 : decode cX4_work 141 = .ok (.aload_n 0, 1) := by decide +kernel
theorem dX4_work_142 : decode cX4_work 142 = .ok (.iconst 3, 1) := by decide +kernel
theorem dX4_work_143 : decode cX4_work 143 = .ok (.invokevirtual 48, 3) := by decide +kernel
theorem dX4_work_146 : decode cX4_work 146 = .ok (.putfield 32, 3) := by decide +kernel
theorem dX4_work_149 : decode cX4_work 149 = .ok (.return_, 1) := by decide +kernel
theorem dX4_addPoints_0 : decode cX4_addPoints 0 = .ok (.iload_n 1, 1) := by decide +kernel
theorem dX4_addPoints_1 : decode cX4_addPoints 1 = .ok (.ifCond .le 16, 3) := by decide +kernel
theorem dX4_addPoints_4 : decode cX4_addPoints 4 = .ok (.aload_n 0, 1) := by decide +kernel
theorem dX4_addPoints_5 : decode cX4_addPoints 5 = .ok (.dup, 1) := by decide +kernel
theorem dX4_addPoints_6 : decode cX4_addPoints 6 = .ok (.getfield 26, 3) := by decide +kernel
theorem dX4_addPoints_9 : decode cX4_addPoints 9 = .ok (.iload_n 1, 1) := by decide +kernel
theorem dX4_addPoints_10 : decode cX4_addPoints 10 = .ok (.iadd, 1) := by decide +kernel
theorem dX4_addPoints_11 : decode cX4_addPoints 11 = .ok (.putfield 26, 3) := by decide +kernel
theorem dX4_addPoints_14 : decode cX4_addPoints 14 = .ok (.goto 13, 3) := by decide +kernel
theorem dX4_addPoints_17 : decode cX4_addPoints 17 = .ok (.aload_n 0, 1) := by decide +kernel
theorem dX4_addPoints_18 : decode cX4_addPoints 18 = .ok (.dup, 1) := by decide +kernel
theorem dX4_addPoints_19 : decode cX4_addPoints 19 = .ok (.getfield 29, 3) := by decide +kernel
theorem dX4_addPoints_22 : decode cX4_addPoints 22 = .ok (.iload_n 1, 1) := by decide +kernel
theorem dX4_addPoints_23 : decode cX4_addPoints 23 = .ok (.isub, 1) := by decide +kernel
theorem dX4_addPoints_24 : decode cX4_addPoints 24 = .ok (.putfield 29, 3) := by decide +kernel
theorem dX4_addPoints_27 : decode cX4_addPoints 27 = .ok (.return_, 1) := by decide +kernel
theorem dX4_whoLeads_0 : decode cX4_whoLeads 0 = .ok (.aload_n 0, 1) := by decide +kernel
theorem dX4_whoLeads_1 : decode cX4_whoLeads 1 = .ok (.getfield 26, 3) := by decide +kernel
theorem dX4_whoLeads_4 : decode cX4_whoLeads 4 = .ok (.aload_n 0, 1) := by decide +kernel
theorem dX4_whoLeads_5 : decode cX4_whoLeads 5 = .ok (.getfield 29, 3) := by decide +kernel
theorem dX4_whoLeads_8 : decode cX4_whoLeads 8 = .ok (.if_icmp .ne 5, 3) := by decide +kernel
theorem dX4_whoLeads_11 : decode cX4_whoLeads 11 = .ok (.iload_n 1, 1) := by decide +kernel
theorem dX4_whoLeads_12 : decode cX4_whoLeads 12 = .ok (.ireturn, 1) := by decide +kernel
theorem dX4_whoLeads_13 : decode cX4_whoLeads 13 = .ok (.aload_n 0, 1) := by decide +kernel
theorem dX4_whoLeads_14 : decode cX4_whoLeads 14 = .ok (.getfield 26, 3) := by decide +kernel
theorem dX4_whoLeads_17 : decode cX4_whoLeads 17 = .ok (.aload_n 0, 1) := by decide +kernel
theorem dX4_whoLeads_18 : decode cX4_whoLeads 18 = .ok (.getfield 29, 3) := by decide +kernel
theorem dX4_whoLeads_21 : decode cX4_whoLeads 21 = .ok (.if_icmp .le 7, 3) := by decide +kernel
theorem dX4_whoLeads_24 : decode cX4_whoLeads 24 = .ok (.iconst 1, 1) := by decide +kernel
theorem dX4_whoLeads_25 : decode cX4_whoLeads 25 = .ok (.goto 4, 3) := by decide +kernel
theorem dX4_whoLeads_28 : decode cX4_whoLeads 28 = .ok (.iconst 2, 1) := by decide +kernel
theorem dX4_whoLeads_29 : decode cX4_whoLeads 29 = .ok (.ireturn, 1) := by decide +kernel
theorem dX4_isOf_0 : decode cX4_isOf 0 = .ok (.iload_n 1, 1) := by decide +kernel
theorem dX4_isOf_1 : decode cX4_isOf 1 = .ok (.aload_n 0, 1) := by decide +kernel
theorem dX4_isOf_2 : decode cX4_isOf 2 = .ok (.getfield 7, 3) := by decide +kernel
theorem dX4_isOf_5 : decode cX4_isOf 5 = .ok (.if_icmp .eq 11, 3) := by decide +kernel
theorem dX4_isOf_8 : decode cX4_isOf 8 = .ok (.iload_n 1, 1) := by decide +kernel
theorem dX4_isOf_9 : decode cX4_isOf 9 = .ok (.aload_n 0, 1) := by decide +kernel
theorem dX4_isOf_10 : decode cX4_isOf 10 = .ok (.getfield 13, 3) := by decide +kernel
theorem dX4_isOf_13 : decode cX4_isOf 13 = .ok (.if_icmp .ne 7, 3) := by decide +kernel
theorem dX4_isOf_16 : decode cX4_isOf 16 = .ok (.iconst 1, 1) := by decide +kernel
theorem dX4_isOf_17 : decode cX4_isOf 17 = .ok (.goto 4, 3) := by decide +kernel
theorem dX4_isOf_20 : decode cX4_isOf 20 = .ok (.iconst 0, 1) := by decide +kernel
theorem dX4_isOf_21 : decode cX4_isOf 21 = .ok (.ireturn, 1) := by decide +kernel
theorem dX4_tableFor_0 : decode cX4_tableFor 0 = .ok (.aload_n 0, 1) := by decide +kernel
theorem dX4_tableFor_1 : decode cX4_tableFor 1 = .ok (.getfield 32, 3) := by decide +kernel
theorem dX4_tableFor_4 : decode cX4_tableFor 4 = .ok (.iconst 3, 1) := by decide +kernel
theorem dX4_tableFor_5 : decode cX4_tableFor 5 = .ok (.if_icmp .ne 5, 3) := by decide +kernel
theorem dX4_tableFor_8 : decode cX4_tableFor 8 = .ok (.iconst 1, 1) := by decide +kernel
theorem dX4_tableFor_9 : decode cX4_tableFor 9 = .ok (.ireturn, 1) := by decide +kernel
theorem dX4_tableFor_10 : decode cX4_tableFor 10 = .ok (.aload_n 0, 1) := by decide +kernel
theorem dX4_tableFor_11 : decode cX4_tableFor 11 = .ok (.getfield 32, 3) := by decide +kernel
theorem dX4_tableFor_14 : decode cX4_tableFor 14 = .ok (.iload_n 1, 1) := by decide +kernel
theorem dX4_tableFor_15 : decode cX4_tableFor 15 = .ok (.aload_n 0, 1) := by decide +kernel
theorem dX4_tableFor_16 : decode cX4_tableFor 16 = .ok (.getfield 7, 3) := by decide +kernel
theorem dX4_tableFor_19 : decode cX4_tableFor 19 = .ok (.if_icmp .ne 7, 3) := by decide +kernel
theorem dX4_tableFor_22 : decode cX4_tableFor 22 = .ok (.iconst 1, 1) := by decide +kernel
theorem dX4_tableFor_23 : decode cX4_tableFor 23 = .ok (.goto 4, 3) := by decide +kernel
theorem dX4_tableFor_26 : decode cX4_tableFor 26 = .ok (.iconst 2, 1) := by decide +kernel
theorem dX4_tableFor_27 : decode cX4_tableFor 27 = .ok (.if_icmp .ne 7, 3) := by decide +kernel
theorem dX4_tableFor_30 : decode cX4_tableFor 30 = .ok (.iconst 2, 1) := by decide +kernel
theorem dX4_tableFor_31 : decode cX4_tableFor 31 = .ok (.goto 4, 3) := by decide +kernel
theorem dX4_tableFor_34 : decode cX4_tableFor 34 = .ok (.iconst 0, 1) := by decide +kernel
theorem dX4_tableFor_35 : decode cX4_tableFor 35 = .ok (.ireturn, 1) := by decide +kernel
theorem dX5_init_0 : decode cX5_init 0 = .ok (.aload_n 0, 1) := by decide +kernel
theorem dX5_init_1 : decode cX5_init 1 = .ok (.invokespecial 3, 3) := by decide +kernel
theorem dX5_init_4 : decode cX5_init 4 = .ok (.aload_n 0, 1) := by decide +kernel
theorem dX5_init_5 : decode cX5_init 5 = .ok (.iconst 5, 1) := by decide +kernel
theorem dX5_init_6 : decode cX5_init 6 = .ok (.newarray .int, 2) := by decide +kernel
theorem dX5_init_8 : decode cX5_init 8 = .ok (.putfield 11, 3) := by decide +kernel
theorem dX5_init_11 : decode cX5_init 11 = .ok (.aload_n 0, 1) := by decide +kernel
theorem dX5_init_12 : decode cX5_init 12 = .ok (.getfield 11, 3) := by decide +kernel
theorem dX5_init_15 : decode cX5_init 15 = .ok (.iconst 0, 1) := by decide +kernel
theorem dX5_init_16 : decode cX5_init 16 = .ok (.iconst 0, 1) := by decide +kernel
theorem dX5_init_17 : decode cX5_init 17 = .ok (.iastore, 1) := by decide +kernel
theorem dX5_init_18 : decode cX5_init 18 = .ok (.aload_n 0, 1) := by decide +kernel
theorem dX5_init_19 : decode cX5_init 19 = .ok (.iconst 1, 1) := by decide +kernel
theorem dX5_init_20 : decode cX5_init 20 = .ok (.putfield 15, 3) := by decide +kernel
theorem dX5_init_23 : decode cX5_init 23 = .ok (.return_, 1) := by decide +kernel
theorem dX5_become_0 : decode cX5_become 0 = .ok (.aload_n 1, 1) := by decide +kernel
theorem dX5_become_1 : decode cX5_become 1 = .ok (.getfield 11, 3) := by decide +kernel
theorem dX5_become_4 : decode cX5_become 4 = .ok (.iconst 0, 1) := by decide +kernel
theorem dX5_become_5 : decode cX5_become 5 = .ok (.aload_n 0, 1) := by decide +kernel
theorem dX5_become_6 : decode cX5_become 6 = .ok (.getfield 11, 3) := by decide +kernel
theorem dX5_become_9 : decode cX5_become 9 = .ok (.iconst 0, 1) := by decide +kernel
theorem dX5_become_10 : decode cX5_become 10 = .ok (.iconst 5, 1) := by decide +kernel
theorem dX5_become_11 : decode cX5_become 11 = .ok (.invokestatic 19, 3) := by decide +kernel
theorem dX5_become_14 : decode cX5_become 14 = .ok (.aload_n 0, 1) := by decide +kernel
theorem dX5_become_15 : decode cX5_become 15 = .ok (.aload_n 1, 1) := by decide +kernel
theorem dX5_become_16 : decode cX5_become 16 = .ok (.getfield 15, 3) := by decide +kernel
theorem dX5_become_19 : decode cX5_become 19 = .ok (.putfield 15, 3) := by decide +kernel
theorem dX5_become_22 : decode cX5_become 22 = .ok (.return_, 1) := by decide +kernel
theorem dX5_read_0 : decode cX5_read 0 = .ok (.aload_n 0, 1) := by decide +kernel
theorem dX5_read_1 : decode cX5_read 1 = .ok (.iconst 0, 1) := by decide +kernel
theorem dX5_read_2 : decode cX5_read 2 = .ok (.putfield 15, 3) := by decide +kernel
theorem dX5_read_5 : decode cX5_read 5 = .ok (.aload_n 0, 1) := by decide +kernel
theorem dX5_read_6 : decode cX5_read 6 = .ok (.iconst 0, 1) := by decide +kernel
theorem dX5_read_7 : decode cX5_read 7 = .ok (.putfield 25, 3) := by decide +kernel
theorem dX5_read_10 : decode cX5_read 10 = .ok (.aload_n 1, 1) := by decide +kernel
theorem dX5_read_11 : decode cX5_read 11 = .ok (.invokevirtual 28, 3) := by decide +kernel
theorem dX5_read_14 : decode cX5_read 14 = .ok (.aload_n 1, 1) := by decide +kernel
theorem dX5_read_15 : decode cX5_read 15 = .ok (.invokevirtual 33, 3) := by decide +kernel
theorem dX5_read_18 : decode cX5_read 18 = .ok (.iconst 0, 1) := by decide +kernel
theorem dX5_read_19 : decode cX5_read 19 = .ok (.istore_n 2, 1) := by decide +kernel
theorem dX5_read_20 : decode cX5_read 20 = .ok (.iload_n 2, 1) := by decide +kernel
theorem dX5_read_21 : decode cX5_read 21 = .ok (.iconst 5, 1) := by decide +kernel
theorem dX5_read_22 : decode cX5_read 22 = .ok (.if_icmp .gt 36, 3) := by decide +kernel
theorem dX5_read_25 : decode cX5_read 25 = .ok (.aload_n 1, 1) := by decide +kernel
theorem dX5_read_26 : decode cX5_read 26 = .ok (.getfield 36, 3) := by decide +kernel
theorem dX5_read_29 : decode cX5_read 29 = .ok (.aload_n 1, 1) := by decide +kernel
theorem dX5_read_30 : decode cX5_read 30 = .ok (.getfield 39, 3) := by decide +kernel
theorem dX5_read_33 : decode cX5_read 33 = .ok (.if_icmp .ge 25, 3) := by decide +kernel
theorem dX5_read_36 : decode cX5_read 36 = .ok (.aload_n 1, 1) := by decide +kernel
theorem dX5_read_37 : decode cX5_read 37 = .ok (.invokevirtual 40, 3) := by decide +kernel
theorem dX5_read_40 : decode cX5_read 40 = .ok (.ifCond .eq 18, 3) := by decide +kernel
theorem dX5_read_43 : decode cX5_read 43 = .ok (.aload_n 0, 1) := by decide +kernel
theorem dX5_read_44 : decode cX5_read 44 = .ok (.aload_n 1, 1) := by decide +kernel
theorem dX5_read_45 : decode cX5_read 45 = .ok (.invokevirtual 44, 3) := by decide +kernel
theorem dX5_read_48 : decode cX5_read 48 = .ok (.aload_n 1, 1) := by decide +kernel
theorem dX5_read_49 : decode cX5_read 49 = .ok (.invokevirtual 33, 3) := by decide +kernel
theorem dX5_read_52 : decode cX5_read 52 = .ok (.iinc 2 1, 3) := by decide +kernel
theorem dX5_read_55 : decode cX5_read 55 = .ok (.goto (-35), 3) := by decide +kernel
theorem dX5_read_58 : decode cX5_read 58 = .ok (.aload_n 1, 1) := by decide +kernel
theorem dX5_read_59 : decode cX5_read 59 = .ok (.invokevirtual 40, 3) := by decide +kernel
theorem dX5_read_62 : decode cX5_read 62 = .ok (.ifCond .eq 19, 3) := by decide +kernel
theorem dX5_read_65 : decode cX5_read 65 = .ok (.aload_n 0, 1) := by decide +kernel
theorem dX5_read_66 : decode cX5_read 66 = .ok (.getfield 15, 3) := by decide +kernel
theorem dX5_read_69 : decode cX5_read 69 = .ok (.ifCond .ne 12, 3) := by decide +kernel
theorem dX5_read_72 : decode cX5_read 72 = .ok (.aload_n 1, 1) := by decide +kernel
theorem dX5_read_73 : decode cX5_read 73 = .ok (.iconst 1, 1) := by decide +kernel
theorem dX5_read_74 : decode cX5_read 74 = .ok (.aload_n 1, 1) := by decide +kernel
theorem dX5_read_75 : decode cX5_read 75 = .ok (.getfield 39, 3) := by decide +kernel
theorem dX5_read_78 : decode cX5_read 78 = .ok (.invokevirtual 48, 3) := by decide +kernel
theorem dX5_read_81 : decode cX5_read 81 = .ok (.aload_n 1, 1) := by decide +kernel
theorem dX5_read_82 : decode cX5_read 82 = .ok (.getfield 39, 3) := by decide +kernel
theorem dX5_read_85 : decode cX5_read 85 = .ok (.bipush 60, 2) := by decide +kernel
theorem dX5_read_87 : decode cX5_read 87 = .ok (.if_icmp .le 26, 3) := by decide +kernel
theorem dX5_read_90 : decode cX5_read 90 = .ok (.aload_n 1, 1) := by decide +kernel
theorem dX5_read_91 : decode cX5_read 91 = .ok (.invokevirtual 40, 3) := by decide +kernel
theorem dX5_read_94 : decode cX5_read 94 = .ok (.ifCond .ne 12, 3) := by decide +kernel
theorem dX5_read_97 : decode cX5_read 97 = .ok (.aload_n 1, 1) := by decide +kernel
theorem dX5_read_98 : decode cX5_read 98 = .ok (.getfield 52, 3) := by decide +kernel
theorem dX5_read_101 : decode cX5_read 101 = .ok (.bipush 60, 2) := by decide +kernel
theorem dX5_read_103 : decode cX5_read 103 = .ok (.if_icmp .lt 10, 3) := by decide +kernel
theorem dX5_read_106 : decode cX5_read 106 = .ok (.aload_n 1, 1) := by decide +kernel
theorem dX5_read_107 : decode cX5_read 107 = .ok (.iconst 1, 1) := by decide +kernel
theorem dX5_read_108 : decode cX5_read 108 = .ok (.bipush 60, 2) := by decide +kernel
theorem dX5_read_110 : decode cX5_read 110 = .ok (.invokevirtual 48, 3) := by decide +kernel
theorem dX5_read_113 : decode cX5_read 113 = .ok (.aload_n 0, 1) := by decide +kernel
theorem dX5_read_114 : decode cX5_read 114 = .ok (.getfield 15, 3) := by decide +kernel
theorem dX5_read_117 : decode cX5_read 117 = .ok (.ireturn, 1) := by decide +kernel
theorem dX5_readWord_0 : decode cX5_readWord 0 = .ok (.aload_n 1, 1) := by decide +kernel
theorem dX5_readWord_1 : decode cX5_readWord 1 = .ok (.invokevirtual 55, 3) := by decide +kernel
theorem dX5_readWord_4 : decode cX5_readWord 4 = .ok (.istore_n 2, 1) := by decide +kernel
theorem dX5_readWord_5 : decode cX5_readWord 5 = .ok (.aload_n 1, 1) := by decide +kernel
theorem dX5_readWord_6 : decode cX5_readWord 6 = .ok (.iload_n 2, 1) := by decide +kernel
theorem dX5_readWord_7 : decode cX5_readWord 7 = .ok (.invokestatic 59, 3) := by decide +kernel
theorem dX5_readWord_10 : decode cX5_readWord 10 = .ok (.istore_n 3, 1) := by decide +kernel
theorem dX5_readWord_11 : decode cX5_readWord 11 = .ok (.iload_n 3, 1) := by decide +kernel
theorem dX5_readWord_12 : decode cX5_readWord 12 = .ok (.iconst (-1), 1) := by decide +kernel
theorem dX5_readWord_13 : decode cX5_readWord 13 = .ok (.if_icmp .ne 13, 3) := by decide +kernel
theorem dX5_readWord_16 : decode cX5_readWord 16 = .ok (.aload_n 1, 1) := by decide +kernel
theorem dX5_readWord_17 : decode cX5_readWord 17 = .ok (.iconst 1, 1) := by decide +kernel
theorem dX5_readWord_18 : decode cX5_readWord 18 = .ok (.aload_n 1, 1) := by decide +kernel
theorem dX5_readWord_19 : decode cX5_readWord 19 = .ok (.getfield 36, 3) := by decide +kernel
theorem dX5_readWord_22 : decode cX5_readWord 22 = .ok (.invokevirtual 48, 3) := by decide +kernel
theorem dX5_readWord_25 : decode cX5_readWord 25 = .ok (.return_, 1) := by decide +kernel
theorem dX5_readWord_26 : decode cX5_readWord 26 = .ok (.aload_n 0, 1) := by decide +kernel
theorem dX5_readWord_27 : decode cX5_readWord 27 = .ok (.getfield 25, 3) := by decide +kernel
theorem dX5_readWord_30 : decode cX5_readWord 30 = .ok (.iload_n 3, 1) := by decide +kernel
theorem dX5_readWord_31 : decode cX5_readWord 31 = .ok (.ishr, 1) := by decide +kernel
theorem dX5_readWord_32 : decode cX5_readWord 32 = .ok (.iconst 1, 1) := by decide +kernel
theorem dX5_readWord_33 : decode cX5_readWord 33 = .ok (.iand, 1) := by decide +kernel
theorem dX5_readWord_34 : decode cX5_readWord 34 = .ok (.ifCond .ne 11, 3) := by decide +kernel
theorem dX5_readWord_37 : decode cX5_readWord 37 = .ok (.aload_n 0, 1) := by decide +kernel
theorem dX5_readWord_38 : decode cX5_readWord 38 = .ok (.getfield 15, 3) := by decide +kernel
theorem dX5_readWord_41 : decode cX5_readWord 41 = .ok (.iconst 5, 1) := by decide +kernel
theorem dX5_readWord_42 : decode cX5_readWord 42 = .ok (.if_icmp .lt 13, 3) := by decide +kernel
theorem dX5_readWord_45 : decode cX5_readWord 45 = .ok (.aload_n 1, 1) := by decide +kernel
theorem dX5_readWord_46 : decode cX5_readWord 46 = .ok (.iconst 3, 1) := by decide +kernel
theorem dX5_readWord_47 : decode cX5_readWord 47 = .ok (.aload_n 1, 1) := by decide +kernel
theorem dX5_readWord_48 : decode cX5_readWord 48 = .ok (.getfield 36, 3) := by decide +kernel
theorem dX5_readWord_51 : decode cX5_readWord 51 = .ok (.invokevirtual 48, 3) := by decide +kernel
theorem dX5_readWord_54 : decode cX5_readWord 54 = .ok (.return_, 1) := by decide +kernel
theorem dX5_readWord_55 : decode cX5_readWord 55 = .ok (.aload_n 0, 1) := by decide +kernel
theorem dX5_readWord_56 : decode cX5_readWord 56 = .ok (.dup, 1) := by decide +kernel
theorem dX5_readWord_57 : decode cX5_readWord 57 = .ok (.getfield 25, 3) := by decide +kernel
theorem dX5_readWord_60 : decode cX5_readWord 60 = .ok (.iconst 1, 1) := by decide +kernel
theorem dX5_readWord_61 : decode cX5_readWord 61 = .ok (.iload_n 3, 1) := by decide +kernel
theorem dX5_readWord_62 : decode cX5_readWord 62 = .ok (.ishl, 1) := by decide +kernel
theorem dX5_readWord_63 : decode cX5_readWord 63 = .ok (.ior, 1) := by decide +kernel
theorem dX5_readWord_64 : decode cX5_readWord 64 = .ok (.putfield 25, 3) := by decide +kernel
theorem dX5_readWord_67 : decode cX5_readWord 67 = .ok (.aload_n 0, 1) := by decide +kernel
theorem dX5_readWord_68 : decode cX5_readWord 68 = .ok (.getfield 11, 3) := by decide +kernel
theorem dX5_readWord_71 : decode cX5_readWord 71 = .ok (.aload_n 0, 1) := by decide +kernel
theorem dX5_readWord_72 : decode cX5_readWord 72 = .ok (.getfield 15, 3) := by decide +kernel
theorem dX5_readWord_75 : decode cX5_readWord 75 = .ok (.iload_n 3, 1) := by decide +kernel
theorem dX5_readWord_76 : decode cX5_readWord 76 = .ok (.iastore, 1) := by decide +kernel
theorem dX5_readWord_77 : decode cX5_readWord 77 = .ok (.aload_n 0, 1) := by decide +kernel
theorem dX5_readWord_78 : decode cX5_readWord 78 = .ok (.dup, 1) := by decide +kernel
theorem dX5_readWord_79 : decode cX5_readWord 79 = .ok (.getfield 15, 3) := by decide +kernel
theorem dX5_readWord_82 : decode cX5_readWord 82 = .ok (.iconst 1, 1) := by decide +kernel
theorem dX5_readWord_83 : decode cX5_readWord 83 = .ok (.iadd, 1) := by decide +kernel
theorem dX5_readWord_84 : decode cX5_readWord 84 = .ok (.putfield 15, 3) := by decide +kernel
theorem dX5_readWord_87 : decode cX5_readWord 87 = .ok (.aload_n 1, 1) := by decide +kernel
theorem dX5_readWord_88 : decode cX5_readWord 88 = .ok (.iload_n 2, 1) := by decide +kernel
theorem dX5_readWord_89 : decode cX5_readWord 89 = .ok (.putfield 36, 3) := by decide +kernel
theorem dX5_readWord_92 : decode cX5_readWord 92 = .ok (.return_, 1) := by decide +kernel
theorem dX5_wordSpelled_0 : decode cX5_wordSpelled 0 = .ok (.iconst 0, 1) := by decide +kernel
theorem dX5_wordSpelled_1 : decode cX5_wordSpelled 1 = .ok (.istore_n 2, 1) := by decide +kernel
theorem dX5_wordSpelled_2 : decode cX5_wordSpelled 2 = .ok (.iload_n 2, 1) := by decide +kernel
theorem dX5_wordSpelled_3 : decode cX5_wordSpelled 3 = .ok (.iconst 5, 1) := by decide +kernel
theorem dX5_wordSpelled_4 : decode cX5_wordSpelled 4 = .ok (.if_icmp .ge 23, 3) := by decide +kernel
theorem dX5_wordSpelled_7 : decode cX5_wordSpelled 7 = .ok (.aload_n 0, 1) := by decide +kernel
theorem dX5_wordSpelled_8 : decode cX5_wordSpelled 8 = .ok (.iload_n 1, 1) := by decide +kernel
theorem dX5_wordSpelled_9 : decode cX5_wordSpelled 9 = .ok (.iload_n 2, 1) := by decide +kernel
theorem dX5_wordSpelled_10 : decode cX5_wordSpelled 10 = .ok (.invokestatic 63, 3) := by decide +kernel
theorem dX5_wordSpelled_13 : decode cX5_wordSpelled 13 = .ok (.invokevirtual 67, 3) := by decide +kernel
theorem dX5_wordSpelled_16 : decode cX5_wordSpelled 16 = .ok (.ifCond .eq 5, 3) := by decide +kernel
theorem dX5_wordSpelled_19 : decode cX5_wordSpelled 19 = .ok (.iload_n 2, 1) := by decide +kernel
theorem dX5_wordSpelled_20 : decode cX5_wordSpelled 20 = .ok (.ireturn, 1) := by decide +kernel
theorem dX5_wordSpelled_21 : decode cX5_wordSpelled 21 = .ok (.iinc 2 1, 3) := by decide +kernel
theorem dX5_wordSpelled_24 : decode cX5_wordSpelled 24 = .ok (.goto (-22), 3) := by decide +kernel
theorem dX5_wordSpelled_27 : decode cX5_wordSpelled 27 = .ok (.iconst (-1), 1) := by decide +kernel
theorem dX5_wordSpelled_28 : decode cX5_wordSpelled 28 = .ok (.ireturn, 1) := by decide +kernel
theorem dX5_orderWord_0 : decode cX5_orderWord 0 = .ok (.iload_n 0, 1) := by decide +kernel
theorem dX5_orderWord_1 : decode cX5_orderWord 1 = .ok (.tableswitch 43 0 3 #[31, 34, 37, 40], 31) := by decide +kernel
theorem dX5_orderWord_32 : decode cX5_orderWord 32 = .ok (.ldc 71, 2) := by decide +kernel
theorem dX5_orderWord_34 : decode cX5_orderWord 34 = .ok (.areturn, 1) := by decide +kernel
theorem dX5_orderWord_35 : decode cX5_orderWord 35 = .ok (.ldc 73, 2) := by decide +kernel
theorem dX5_orderWord_37 : decode cX5_orderWord 37 = .ok (.areturn, 1) := by decide +kernel
theorem dX5_orderWord_38 : decode cX5_orderWord 38 = .ok (.ldc 75, 2) := by decide +kernel
theorem dX5_orderWord_40 : decode cX5_orderWord 40 = .ok (.areturn, 1) := by decide +kernel
theorem dX5_orderWord_41 : decode cX5_orderWord 41 = .ok (.ldc 77, 2) := by decide +kernel
theorem dX5_orderWord_43 : decode cX5_orderWord 43 = .ok (.areturn, 1) := by decide +kernel
theorem dX5_orderWord_44 : decode cX5_orderWord 44 = .ok (.ldc 79, 2) := by decide +kernel
theorem dX5_orderWord_46 : decode cX5_orderWord 46 = .ok (.areturn, 1) := by decide +kernel
theorem dX6_init_0 : decode cX6_init 0 = .ok (.aload_n 0, 1) := by decide +kernel
theorem dX6_init_1 : decode cX6_init 1 = .ok (.invokespecial 3, 3) := by decide +kernel
theorem dX6_init_4 : decode cX6_init 4 = .ok (.aload_n 0, 1) := by decide +kernel
theorem dX6_init_5 : decode cX6_init 5 = .ok (.bipush 8, 2) := by decide +kernel
theorem dX6_init_7 : decode cX6_init 7 = .ok (.newarray .int, 2) := by decide +kernel
theorem dX6_init_9 : decode cX6_init 9 = .ok (.putfield 11, 3) := by decide +kernel
theorem dX6_init_12 : decode cX6_init 12 = .ok (.getstatic 15, 3) := by decide +kernel
theorem dX6_init_15 : decode cX6_init 15 = .ok (.iconst 0, 1) := by decide +kernel
theorem dX6_init_16 : decode cX6_init 16 = .ok (.aload_n 0, 1) := by decide +kernel
theorem dX6_init_17 : decode cX6_init 17 = .ok (.getfield 11, 3) := by decide +kernel
theorem dX6_init_20 : decode cX6_init 20 = .ok (.iconst 0, 1) := by decide +kernel
theorem dX6_init_21 : decode cX6_init 21 = .ok (.bipush 8, 2) := by decide +kernel
theorem dX6_init_23 : decode cX6_init 23 = .ok (.invokestatic 18, 3) := by decide +kernel
theorem dX6_init_26 : decode cX6_init 26 = .ok (.return_, 1) := by decide +kernel
theorem dX6_become_0 : decode cX6_become 0 = .ok (.aload_n 1, 1) := by decide +kernel
theorem dX6_become_1 : decode cX6_become 1 = .ok (.getfield 11, 3) := by decide +kernel
theorem dX6_become_4 : decode cX6_become 4 = .ok (.iconst 0, 1) := by decide +kernel
theorem dX6_become_5 : decode cX6_become 5 = .ok (.aload_n 0, 1) := by decide +kernel
theorem dX6_become_6 : decode cX6_become 6 = .ok (.getfield 11, 3) := by decide +kernel
theorem dX6_become_9 : decode cX6_become 9 = .ok (.iconst 0, 1) := by decide +kernel
theorem dX6_become_10 : decode cX6_become 10 = .ok (.bipush 8, 2) := by decide +kernel
theorem dX6_become_12 : decode cX6_become 12 = .ok (.invokestatic 18, 3) := by decide +kernel
theorem dX6_become_15 : decode cX6_become 15 = .ok (.return_, 1) := by decide +kernel
theorem dX6_read_0 : decode cX6_read 0 = .ok (.getstatic 15, 3) := by decide +kernel
theorem dX6_read_3 : decode cX6_read 3 = .ok (.iconst 0, 1) := by decide +kernel
theorem dX6_read_4 : decode cX6_read 4 = .ok (.aload_n 0, 1) := by decide +kernel
theorem dX6_read_5 : decode cX6_read 5 = .ok (.getfield 11, 3) := by decide +kernel
theorem dX6_read_8 : decode cX6_read 8 = .ok (.iconst 0, 1) := by decide +kernel
theorem dX6_read_9 : decode cX6_read 9 = .ok (.bipush 8, 2) := by decide +kernel
theorem dX6_read_11 : decode cX6_read 11 = .ok (.invokestatic 18, 3) := by decide +kernel
theorem dX6_read_14 : decode cX6_read 14 = .ok (.aload_n 0, 1) := by decide +kernel
theorem dX6_read_15 : decode cX6_read 15 = .ok (.iconst 0, 1) := by decide +kernel
theorem dX6_read_16 : decode cX6_read 16 = .ok (.putfield 24, 3) := by decide +kernel
theorem dX6_read_19 : decode cX6_read 19 = .ok (.aload_n 1, 1) := by decide +kernel
theorem dX6_read_20 : decode cX6_read 20 = .ok (.invokevirtual 28, 3) := by decide +kernel
theorem dX6_read_23 : decode cX6_read 23 = .ok (.aload_n 1, 1) := by decide +kernel
theorem dX6_read_24 : decode cX6_read 24 = .ok (.invokevirtual 33, 3) := by decide +kernel
theorem dX6_read_27 : decode cX6_read 27 = .ok (.iconst 0, 1) := by decide +kernel
theorem dX6_read_28 : decode cX6_read 28 = .ok (.istore_n 2, 1) := by decide +kernel
theorem dX6_read_29 : decode cX6_read 29 = .ok (.iload_n 2, 1) := by decide +kernel
theorem dX6_read_30 : decode cX6_read 30 = .ok (.bipush 8, 2) := by decide +kernel
theorem dX6_read_32 : decode cX6_read 32 = .ok (.if_icmp .gt 36, 3) := by decide +kernel
theorem dX6_read_35 : decode cX6_read 35 = .ok (.aload_n 1, 1) := by decide +kernel
theorem dX6_read_36 : decode cX6_read 36 = .ok (.getfield 36, 3) := by decide +kernel
theorem dX6_read_39 : decode cX6_read 39 = .ok (.aload_n 1, 1) := by decide +kernel
theorem dX6_read_40 : decode cX6_read 40 = .ok (.getfield 39, 3) := by decide +kernel
theorem dX6_read_43 : decode cX6_read 43 = .ok (.if_icmp .ge 25, 3) := by decide +kernel
theorem dX6_read_46 : decode cX6_read 46 = .ok (.aload_n 1, 1) := by decide +kernel
theorem dX6_read_47 : decode cX6_read 47 = .ok (.invokevirtual 42, 3) := by decide +kernel
theorem dX6_read_50 : decode cX6_read 50 = .ok (.ifCond .eq 18, 3) := by decide +kernel
theorem dX6_read_53 : decode cX6_read 53 = .ok (.aload_n 0, 1) := by decide +kernel
theorem dX6_read_54 : decode cX6_read 54 = .ok (.aload_n 1, 1) := by decide +kernel
theorem dX6_read_55 : decode cX6_read 55 = .ok (.invokevirtual 46, 3) := by decide +kernel
theorem dX6_read_58 : decode cX6_read 58 = .ok (.aload_n 1, 1) := by decide +kernel
theorem dX6_read_59 : decode cX6_read 59 = .ok (.invokevirtual 33, 3) := by decide +kernel
theorem dX6_read_62 : decode cX6_read 62 = .ok (.iinc 2 1, 3) := by decide +kernel
theorem dX6_read_65 : decode cX6_read 65 = .ok (.goto (-36), 3) := by decide +kernel
theorem dX6_read_68 : decode cX6_read 68 = .ok (.aload_n 0, 1) := by decide +kernel
theorem dX6_read_69 : decode cX6_read 69 = .ok (.getfield 24, 3) := by decide +kernel
theorem dX6_read_72 : decode cX6_read 72 = .ok (.invokestatic 50, 3) := by decide +kernel
theorem dX6_read_75 : decode cX6_read 75 = .ok (.ireturn, 1) := by decide +kernel
theorem dX6_readClause_0 : decode cX6_readClause 0 = .ok (.aload_n 1, 1) := by decide +kernel
theorem dX6_readClause_1 : decode cX6_readClause 1 = .ok (.invokevirtual 56, 3) := by decide +kernel
theorem dX6_readClause_4 : decode cX6_readClause 4 = .ok (.istore_n 2, 1) := by decide +kernel
theorem dX6_readClause_5 : decode cX6_readClause 5 = .ok (.aload_n 1, 1) := by decide +kernel
theorem dX6_readClause_6 : decode cX6_readClause 6 = .ok (.iload_n 2, 1) := by decide +kernel
theorem dX6_readClause_7 : decode cX6_readClause 7 = .ok (.invokestatic 60, 3) := by decide +kernel
theorem dX6_readClause_10 : decode cX6_readClause 10 = .ok (.istore_n 3, 1) := by decide +kernel
theorem dX6_readClause_11 : decode cX6_readClause 11 = .ok (.iload_n 3, 1) := by decide +kernel
theorem dX6_readClause_12 : decode cX6_readClause 12 = .ok (.iconst (-1), 1) := by decide +kernel
theorem dX6_readClause_13 : decode cX6_readClause 13 = .ok (.if_icmp .ne 13, 3) := by decide +kernel
theorem dX6_readClause_16 : decode cX6_readClause 16 = .ok (.aload_n 1, 1) := by decide +kernel
theorem dX6_readClause_17 : decode cX6_readClause 17 = .ok (.iconst 1, 1) := by decide +kernel
theorem dX6_readClause_18 : decode cX6_readClause 18 = .ok (.aload_n 1, 1) := by decide +kernel
theorem dX6_readClause_19 : decode cX6_readClause 19 = .ok (.getfield 36, 3) := by decide +kernel
theorem dX6_readClause_22 : decode cX6_readClause 22 = .ok (.invokevirtual 64, 3) := by decide +kernel
theorem dX6_readClause_25 : decode cX6_readClause 25 = .ok (.return_, 1) := by decide +kernel
theorem dX6_readClause_26 : decode cX6_readClause 26 = .ok (.aload_n 0, 1) := by decide +kernel
theorem dX6_readClause_27 : decode cX6_readClause 27 = .ok (.getfield 24, 3) := by decide +kernel
theorem dX6_readClause_30 : decode cX6_readClause 30 = .ok (.iload_n 3, 1) := by decide +kernel
theorem dX6_readClause_31 : decode cX6_readClause 31 = .ok (.ishr, 1) := by decide +kernel
theorem dX6_readClause_32 : decode cX6_readClause 32 = .ok (.iconst 1, 1) := by decide +kernel
theorem dX6_readClause_33 : decode cX6_readClause 33 = .ok (.iand, 1) := by decide +kernel
theorem dX6_readClause_34 : decode cX6_readClause 34 = .ok (.ifCond .eq 13, 3) := by decide +kernel
theorem dX6_readClause_37 : decode cX6_readClause 37 = .ok (.aload_n 1, 1) := by decide +kernel
theorem dX6_readClause_38 : decode cX6_readClause 38 = .ok (.iconst 3, 1) := by decide +kernel
theorem dX6_readClause_39 : decode cX6_readClause 39 = .ok (.aload_n 1, 1) := by decide +kernel
theorem dX6_readClause_40 : decode cX6_readClause 40 = .ok (.getfield 36, 3) := by decide +kernel
theorem dX6_readClause_43 : decode cX6_readClause 43 = .ok (.invokevirtual 64, 3) := by decide +kernel
theorem dX6_readClause_46 : decode cX6_readClause 46 = .ok (.return_, 1) := by decide +kernel
theorem dX6_readClause_47 : decode cX6_readClause 47 = .ok (.aload_n 0, 1) := by decide +kernel
theorem dX6_readClause_48 : decode cX6_readClause 48 = .ok (.dup, 1) := by decide +kernel
theorem dX6_readClause_49 : decode cX6_readClause 49 = .ok (.getfield 24, 3) := by decide +kernel
theorem dX6_readClause_52 : decode cX6_readClause 52 = .ok (.iconst 1, 1) := by decide +kernel
theorem dX6_readClause_53 : decode cX6_readClause 53 = .ok (.iload_n 3, 1) := by decide +kernel
theorem dX6_readClause_54 : decode cX6_readClause 54 = .ok (.ishl, 1) := by decide +kernel
theorem dX6_readClause_55 : decode cX6_readClause 55 = .ok (.ior, 1) := by decide +kernel
theorem dX6_readClause_56 : decode cX6_readClause 56 = .ok (.putfield 24, 3) := by decide +kernel
theorem dX6_readClause_59 : decode cX6_readClause 59 = .ok (.aload_n 1, 1) := by decide +kernel
theorem dX6_readClause_60 : decode cX6_readClause 60 = .ok (.iload_n 2, 1) := by decide +kernel
theorem dX6_readClause_61 : decode cX6_readClause 61 = .ok (.putfield 36, 3) := by decide +kernel
theorem dX6_readClause_64 : decode cX6_readClause 64 = .ok (.aload_n 1, 1) := by decide +kernel
theorem dX6_readClause_65 : decode cX6_readClause 65 = .ok (.invokevirtual 33, 3) := by decide +kernel
theorem dX6_readClause_68 : decode cX6_readClause 68 = .ok (.iload_n 3, 1) := by decide +kernel
theorem dX6_readClause_69 : decode cX6_readClause 69 = .ok (.iconst 5, 1) := by decide +kernel
theorem dX6_readClause_70 : decode cX6_readClause 70 = .ok (.if_icmp .ge 12, 3) := by decide +kernel
theorem dX6_readClause_73 : decode cX6_readClause 73 = .ok (.aload_n 0, 1) := by decide +kernel
theorem dX6_readClause_74 : decode cX6_readClause 74 = .ok (.aload_n 1, 1) := by decide +kernel
theorem dX6_readClause_75 : decode cX6_readClause 75 = .ok (.iload_n 3, 1) := by decide +kernel
theorem dX6_readClause_76 : decode cX6_readClause 76 = .ok (.invokevirtual 68, 3) := by decide +kernel
theorem dX6_readClause_79 : decode cX6_readClause 79 = .ok (.goto 9, 3) := by decide +kernel
theorem dX6_readClause_82 : decode cX6_readClause 82 = .ok (.aload_n 0, 1) := by decide +kernel
theorem dX6_readClause_83 : decode cX6_readClause 83 = .ok (.aload_n 1, 1) := by decide +kernel
theorem dX6_readClause_84 : decode cX6_readClause 84 = .ok (.iload_n 3, 1) := by decide +kernel
theorem dX6_readClause_85 : decode cX6_readClause 85 = .ok (.invokevirtual 72, 3) := by decide +kernel
theorem dX6_readClause_88 : decode cX6_readClause 88 = .ok (.aload_n 1, 1) := by decide +kernel
theorem dX6_readClause_89 : decode cX6_readClause 89 = .ok (.invokevirtual 42, 3) := by decide +kernel
theorem dX6_readClause_92 : decode cX6_readClause 92 = .ok (.ifCond .eq 7, 3) := by decide +kernel
theorem dX6_readClause_95 : decode cX6_readClause 95 = .ok (.aload_n 1, 1) := by decide +kernel
theorem dX6_readClause_96 : decode cX6_readClause 96 = .ok (.invokestatic 75, 3) := by decide +kernel
theorem dX6_readClause_99 : decode cX6_readClause 99 = .ok (.return_, 1) := by decide +kernel
theorem dX6_readNumber_0 : decode cX6_readNumber 0 = .ok (.aload_n 1, 1) := by decide +kernel
theorem dX6_readNumber_1 : decode cX6_readNumber 1 = .ok (.invokevirtual 78, 3) := by decide +kernel
theorem dX6_readNumber_4 : decode cX6_readNumber 4 = .ok (.istore_n 3, 1) := by decide +kernel
theorem dX6_readNumber_5 : decode cX6_readNumber 5 = .ok (.iload_n 3, 1) := by decide +kernel
theorem dX6_readNumber_6 : decode cX6_readNumber 6 = .ok (.aload_n 1, 1) := by decide +kernel
theorem dX6_readNumber_7 : decode cX6_readNumber 7 = .ok (.getfield 36, 3) := by decide +kernel
theorem dX6_readNumber_10 : decode cX6_readNumber 10 = .ok (.if_icmp .ne 13, 3) := by decide +kernel
theorem dX6_readNumber_13 : decode cX6_readNumber 13 = .ok (.aload_n 1, 1) := by decide +kernel
theorem dX6_readNumber_14 : decode cX6_readNumber 14 = .ok (.iconst 1, 1) := by decide +kernel
theorem dX6_readNumber_15 : decode cX6_readNumber 15 = .ok (.aload_n 1, 1) := by decide +kernel
theorem dX6_readNumber_16 : decode cX6_readNumber 16 = .ok (.getfield 36, 3) := by decide +kernel
theorem dX6_readNumber_19 : decode cX6_readNumber 19 = .ok (.invokevirtual 64, 3) := by decide +kernel
theorem dX6_readNumber_22 : decode cX6_readNumber 22 = .ok (.return_, 1) := by decide +kernel
theorem dX6_readNumber_23 : decode cX6_readNumber 23 = .ok (.iload_n 3, 1) := by decide +kernel
theorem dX6_readNumber_24 : decode cX6_readNumber 24 = .ok (.aload_n 1, 1) := by decide +kernel
theorem dX6_readNumber_25 : decode cX6_readNumber 25 = .ok (.getfield 36, 3) := by decide +kernel
theorem dX6_readNumber_28 : decode cX6_readNumber 28 = .ok (.isub, 1) := by decide +kernel
theorem dX6_readNumber_29 : decode cX6_readNumber 29 = .ok (.iconst 2, 1) := by decide +kernel
theorem dX6_readNumber_30 : decode cX6_readNumber 30 = .ok (.if_icmp .le 7, 3) := by decide +kernel
theorem dX6_readNumber_33 : decode cX6_readNumber 33 = .ok (.iconst (-1), 1) := by decide +kernel
theorem dX6_readNumber_34 : decode cX6_readNumber 34 = .ok (.goto 8, 3) := by decide +kernel
theorem dX6_readNumber_37 : decode cX6_readNumber 37 = .ok (.aload_n 1, 1) := by decide +kernel
theorem dX6_readNumber_38 : decode cX6_readNumber 38 = .ok (.iload_n 3, 1) := by decide +kernel
theorem dX6_readNumber_39 : decode cX6_readNumber 39 = .ok (.invokestatic 81, 3) := by decide +kernel
theorem dX6_readNumber_42 : decode cX6_readNumber 42 = .ok (.istore 4, 2) := by decide +kernel
theorem dX6_readNumber_44 : decode cX6_readNumber 44 = .ok (.iload 4, 2) := by decide +kernel
theorem dX6_readNumber_46 : decode cX6_readNumber 46 = .ok (.getstatic 84, 3) := by decide +kernel
theorem dX6_readNumber_49 : decode cX6_readNumber 49 = .ok (.iload_n 2, 1) := by decide +kernel
theorem dX6_readNumber_50 : decode cX6_readNumber 50 = .ok (.iaload, 1) := by decide +kernel
theorem dX6_readNumber_51 : decode cX6_readNumber 51 = .ok (.getstatic 87, 3) := by decide +kernel
theorem dX6_readNumber_54 : decode cX6_readNumber 54 = .ok (.iload_n 2, 1) := by decide +kernel
theorem dX6_readNumber_55 : decode cX6_readNumber 55 = .ok (.iaload, 1) := by decide +kernel
theorem dX6_readNumber_56 : decode cX6_readNumber 56 = .ok (.invokestatic 90, 3) := by decide +kernel
theorem dX6_readNumber_59 : decode cX6_readNumber 59 = .ok (.ifCond .ne 13, 3) := by decide +kernel
theorem dX6_readNumber_62 : decode cX6_readNumber 62 = .ok (.aload_n 1, 1) := by decide +kernel
theorem dX6_readNumber_63 : decode cX6_readNumber 63 = .ok (.iconst 2, 1) := by decide +kernel
theorem dX6_readNumber_64 : decode cX6_readNumber 64 = .ok (.aload_n 1, 1) := by decide +kernel
theorem dX6_readNumber_65 : decode cX6_readNumber 65 = .ok (.getfield 36, 3) := by decide +kernel
theorem dX6_readNumber_68 : decode cX6_readNumber 68 = .ok (.invokevirtual 64, 3) := by decide +kernel
theorem dX6_readNumber_71 : decode cX6_readNumber 71 = .ok (.return_, 1) := by decide +kernel
theorem dX6_readNumber_72 : decode cX6_readNumber 72 = .ok (.aload_n 0, 1) := by decide +kernel
theorem dX6_readNumber_73 : decode cX6_readNumber 73 = .ok (.getfield 11, 3) := by decide +kernel
theorem dX6_readNumber_76 : decode cX6_readNumber 76 = .ok (.iload_n 2, 1) := by decide +kernel
theorem dX6_readNumber_77 : decode cX6_readNumber 77 = .ok (.iload 4, 2) := by decide +kernel
theorem dX6_readNumber_79 : decode cX6_readNumber 79 = .ok (.iastore, 1) := by decide +kernel
theorem dX6_readNumber_80 : decode cX6_readNumber 80 = .ok (.aload_n 1, 1) := by decide +kernel
theorem dX6_readNumber_81 : decode cX6_readNumber 81 = .ok (.iload_n 3, 1) := by decide +kernel
theorem dX6_readNumber_82 : decode cX6_readNumber 82 = .ok (.putfield 36, 3) := by decide +kernel
theorem dX6_readNumber_85 : decode cX6_readNumber 85 = .ok (.return_, 1) := by decide +kernel
theorem dX6_numberUpTo_0 : decode cX6_numberUpTo 0 = .ok (.iconst 0, 1) := by decide +kernel
theorem dX6_numberUpTo_1 : decode cX6_numberUpTo 1 = .ok (.istore_n 2, 1) := by decide +kernel
theorem dX6_numberUpTo_2 : decode cX6_numberUpTo 2 = .ok (.aload_n 0, 1) := by decide +kernel
theorem dX6_numberUpTo_3 : decode cX6_numberUpTo 3 = .ok (.getfield 36, 3) := by decide +kernel
theorem dX6_numberUpTo_6 : decode cX6_numberUpTo 6 = .ok (.istore_n 3, 1) := by decide +kernel
theorem dX6_numberUpTo_7 : decode cX6_numberUpTo 7 = .ok (.iload_n 3, 1) := by decide +kernel
theorem dX6_numberUpTo_8 : decode cX6_numberUpTo 8 = .ok (.iload_n 1, 1) := by decide +kernel
theorem dX6_numberUpTo_9 : decode cX6_numberUpTo 9 = .ok (.if_icmp .ge 23, 3) := by decide +kernel
theorem dX6_numberUpTo_12 : decode cX6_numberUpTo 12 = .ok (.bipush 10, 2) := by decide +kernel
theorem dX6_numberUpTo_14 : decode cX6_numberUpTo 14 = .ok (.iload_n 2, 1) := by decide +kernel
theorem dX6_numberUpTo_15 : decode cX6_numberUpTo 15 = .ok (.imul, 1) := by decide +kernel
theorem dX6_numberUpTo_16 : decode cX6_numberUpTo 16 = .ok (.aload_n 0, 1) := by decide +kernel
theorem dX6_numberUpTo_17 : decode cX6_numberUpTo 17 = .ok (.iload_n 3, 1) := by decide +kernel
theorem dX6_numberUpTo_18 : decode cX6_numberUpTo 18 = .ok (.invokevirtual 94, 3) := by decide +kernel
theorem dX6_numberUpTo_21 : decode cX6_numberUpTo 21 = .ok (.iadd, 1) := by decide +kernel
theorem dX6_numberUpTo_22 : decode cX6_numberUpTo 22 = .ok (.bipush 48, 2) := by decide +kernel
theorem dX6_numberUpTo_24 : decode cX6_numberUpTo 24 = .ok (.isub, 1) := by decide +kernel
theorem dX6_numberUpTo_25 : decode cX6_numberUpTo 25 = .ok (.istore_n 2, 1) := by decide +kernel
theorem dX6_numberUpTo_26 : decode cX6_numberUpTo 26 = .ok (.iinc 3 1, 3) := by decide +kernel
theorem dX6_numberUpTo_29 : decode cX6_numberUpTo 29 = .ok (.goto (-22), 3) := by decide +kernel
theorem dX6_numberUpTo_32 : decode cX6_numberUpTo 32 = .ok (.iload_n 2, 1) := by decide +kernel
theorem dX6_numberUpTo_33 : decode cX6_numberUpTo 33 = .ok (.ireturn, 1) := by decide +kernel
theorem dX6_readChoice_0 : decode cX6_readChoice 0 = .ok (.aload_n 1, 1) := by decide +kernel
theorem dX6_readChoice_1 : decode cX6_readChoice 1 = .ok (.invokevirtual 56, 3) := by decide +kernel
theorem dX6_readChoice_4 : decode cX6_readChoice 4 = .ok (.istore_n 3, 1) := by decide +kernel
theorem dX6_readChoice_5 : decode cX6_readChoice 5 = .ok (.iload_n 2, 1) := by decide +kernel
theorem dX6_readChoice_6 : decode cX6_readChoice 6 = .ok (.iconst 5, 1) := by decide +kernel
theorem dX6_readChoice_7 : decode cX6_readChoice 7 = .ok (.if_icmp .ne 11, 3) := by decide +kernel
theorem dX6_readChoice_10 : decode cX6_readChoice 10 = .ok (.aload_n 1, 1) := by decide +kernel
theorem dX6_readChoice_11 : decode cX6_readChoice 11 = .ok (.iload_n 3, 1) := by decide +kernel
theorem dX6_readChoice_12 : decode cX6_readChoice 12 = .ok (.invokestatic 97, 3) := by decide +kernel
theorem dX6_readChoice_15 : decode cX6_readChoice 15 = .ok (.goto 8, 3) := by decide +kernel
theorem dX6_readChoice_18 : decode cX6_readChoice 18 = .ok (.aload_n 1, 1) := by decide +kernel
theorem dX6_readChoice_19 : decode cX6_readChoice 19 = .ok (.iload_n 3, 1) := by decide +kernel
theorem dX6_readChoice_20 : decode cX6_readChoice 20 = .ok (.invokestatic 100, 3) := by decide +kernel
theorem dX6_readChoice_23 : decode cX6_readChoice 23 = .ok (.istore 4, 2) := by decide +kernel
theorem dX6_readChoice_25 : decode cX6_readChoice 25 = .ok (.iload 4, 2) := by decide +kernel
theorem dX6_readChoice_27 : decode cX6_readChoice 27 = .ok (.iconst (-1), 1) := by decide +kernel
theorem dX6_readChoice_28 : decode cX6_readChoice 28 = .ok (.if_icmp .ne 13, 3) := by decide +kernel
theorem dX6_readChoice_31 : decode cX6_readChoice 31 = .ok (.aload_n 1, 1) := by decide +kernel
theorem dX6_readChoice_32 : decode cX6_readChoice 32 = .ok (.iconst 1, 1) := by decide +kernel
theorem dX6_readChoice_33 : decode cX6_readChoice 33 = .ok (.aload_n 1, 1) := by decide +kernel
theorem dX6_readChoice_34 : decode cX6_readChoice 34 = .ok (.getfield 36, 3) := by decide +kernel
theorem dX6_readChoice_37 : decode cX6_readChoice 37 = .ok (.invokevirtual 64, 3) := by decide +kernel
theorem dX6_readChoice_40 : decode cX6_readChoice 40 = .ok (.return_, 1) := by decide +kernel
theorem dX6_readChoice_41 : decode cX6_readChoice 41 = .ok (.aload_n 0, 1) := by decide +kernel
theorem dX6_readChoice_42 : decode cX6_readChoice 42 = .ok (.getfield 11, 3) := by decide +kernel
theorem dX6_readChoice_45 : decode cX6_readChoice 45 = .ok (.iload_n 2, 1) := by decide +kernel
theorem dX6_readChoice_46 : decode cX6_readChoice 46 = .ok (.iload 4, 2) := by decide +kernel
theorem dX6_readChoice_48 : decode cX6_readChoice 48 = .ok (.iastore, 1) := by decide +kernel
theorem dX6_readChoice_49 : decode cX6_readChoice 49 = .ok (.aload_n 1, 1) := by decide +kernel
theorem dX6_readChoice_50 : decode cX6_readChoice 50 = .ok (.iload_n 3, 1) := by decide +kernel
theorem dX6_readChoice_51 : decode cX6_readChoice 51 = .ok (.putfield 36, 3) := by decide +kernel
theorem dX6_readChoice_54 : decode cX6_readChoice 54 = .ok (.return_, 1) := by decide +kernel
theorem dX6_readClosing_0 : decode cX6_readClosing 0 = .ok (.aload_n 0, 1) := by decide +kernel
theorem dX6_readClosing_1 : decode cX6_readClosing 1 = .ok (.invokevirtual 33, 3) := by decide +kernel
theorem dX6_readClosing_4 : decode cX6_readClosing 4 = .ok (.aload_n 0, 1) := by decide +kernel
theorem dX6_readClosing_5 : decode cX6_readClosing 5 = .ok (.aload_n 0, 1) := by decide +kernel
theorem dX6_readClosing_6 : decode cX6_readClosing 6 = .ok (.getfield 36, 3) := by decide +kernel
theorem dX6_readClosing_9 : decode cX6_readClosing 9 = .ok (.invokevirtual 94, 3) := by decide +kernel
theorem dX6_readClosing_12 : decode cX6_readClosing 12 = .ok (.bipush 59, 2) := by decide +kernel
theorem dX6_readClosing_14 : decode cX6_readClosing 14 = .ok (.if_icmp .eq 13, 3) := by decide +kernel
theorem dX6_readClosing_17 : decode cX6_readClosing 17 = .ok (.aload_n 0, 1) := by decide +kernel
theorem dX6_readClosing_18 : decode cX6_readClosing 18 = .ok (.iconst 1, 1) := by decide +kernel
theorem dX6_readClosing_19 : decode cX6_readClosing 19 = .ok (.aload_n 0, 1) := by decide +kernel
theorem dX6_readClosing_20 : decode cX6_readClosing 20 = .ok (.getfield 36, 3) := by decide +kernel
theorem dX6_readClosing_23 : decode cX6_readClosing 23 = .ok (.invokevirtual 64, 3) := by decide +kernel
theorem dX6_readClosing_26 : decode cX6_readClosing 26 = .ok (.return_, 1) := by decide +kernel
theorem dX6_readClosing_27 : decode cX6_readClosing 27 = .ok (.aload_n 0, 1) := by decide +kernel
theorem dX6_readClosing_28 : decode cX6_readClosing 28 = .ok (.dup, 1) := by decide +kernel
theorem dX6_readClosing_29 : decode cX6_readClosing 29 = .ok (.getfield 36, 3) := by decide +kernel
theorem dX6_readClosing_32 : decode cX6_readClosing 32 = .ok (.iconst 1, 1) := by decide +kernel
theorem dX6_readClosing_33 : decode cX6_readClosing 33 = .ok (.iadd, 1) := by decide +kernel
theorem dX6_readClosing_34 : decode cX6_readClosing 34 = .ok (.putfield 36, 3) := by decide +kernel
theorem dX6_readClosing_37 : decode cX6_readClosing 37 = .ok (.return_, 1) := by decide +kernel
theorem dX6_clauseSpelled_0 : decode cX6_clauseSpelled 0 = .ok (.iconst 0, 1) := by decide +kernel
theorem dX6_clauseSpelled_1 : decode cX6_clauseSpelled 1 = .ok (.istore_n 2, 1) := by decide +kernel
theorem dX6_clauseSpelled_2 : decode cX6_clauseSpelled 2 = .ok (.iload_n 2, 1) := by decide +kernel
theorem dX6_clauseSpelled_3 : decode cX6_clauseSpelled 3 = .ok (.bipush 8, 2) := by decide +kernel
theorem dX6_clauseSpelled_5 : decode cX6_clauseSpelled 5 = .ok (.if_icmp .ge 23, 3) := by decide +kernel
theorem dX6_clauseSpelled_8 : decode cX6_clauseSpelled 8 = .ok (.aload_n 0, 1) := by decide +kernel
theorem dX6_clauseSpelled_9 : decode cX6_clauseSpelled 9 = .ok (.iload_n 1, 1) := by decide +kernel
theorem dX6_clauseSpelled_10 : decode cX6_clauseSpelled 10 = .ok (.iload_n 2, 1) := by decide +kernel
theorem dX6_clauseSpelled_11 : decode cX6_clauseSpelled 11 = .ok (.invokestatic 103, 3) := by decide +kernel
theorem dX6_clauseSpelled_14 : decode cX6_clauseSpelled 14 = .ok (.invokevirtual 107, 3) := by decide +kernel
theorem dX6_clauseSpelled_17 : decode cX6_clauseSpelled 17 = .ok (.ifCond .eq 5, 3) := by decide +kernel
theorem dX6_clauseSpelled_20 : decode cX6_clauseSpelled 20 = .ok (.iload_n 2, 1) := by decide +kernel
theorem dX6_clauseSpelled_21 : decode cX6_clauseSpelled 21 = .ok (.ireturn, 1) := by decide +kernel
theorem dX6_clauseSpelled_22 : decode cX6_clauseSpelled 22 = .ok (.iinc 2 1, 3) := by decide +kernel
theorem dX6_clauseSpelled_25 : decode cX6_clauseSpelled 25 = .ok (.goto (-23), 3) := by decide +kernel
theorem dX6_clauseSpelled_28 : decode cX6_clauseSpelled 28 = .ok (.iconst (-1), 1) := by decide +kernel
theorem dX6_clauseSpelled_29 : decode cX6_clauseSpelled 29 = .ok (.ireturn, 1) := by decide +kernel
theorem dX6_clauseWord_0 : decode cX6_clauseWord 0 = .ok (.iload_n 0, 1) := by decide +kernel
theorem dX6_clauseWord_1 : decode cX6_clauseWord 1 = .ok (.tableswitch 64 0 6 #[43, 46, 49, 52, 55, 58, 61], 43) := by decide +kernel
theorem dX6_clauseWord_44 : decode cX6_clauseWord 44 = .ok (.ldc 111, 2) := by decide +kernel
theorem dX6_clauseWord_46 : decode cX6_clauseWord 46 = .ok (.areturn, 1) := by decide +kernel
theorem dX6_clauseWord_47 : decode cX6_clauseWord 47 = .ok (.ldc 113, 2) := by decide +kernel
theorem dX6_clauseWord_49 : decode cX6_clauseWord 49 = .ok (.areturn, 1) := by decide +kernel
theorem dX6_clauseWord_50 : decode cX6_clauseWord 50 = .ok (.ldc 115, 2) := by decide +kernel
theorem dX6_clauseWord_52 : decode cX6_clauseWord 52 = .ok (.areturn, 1) := by decide +kernel
theorem dX6_clauseWord_53 : decode cX6_clauseWord 53 = .ok (.ldc 117, 2) := by decide +kernel
theorem dX6_clauseWord_55 : decode cX6_clauseWord 55 = .ok (.areturn, 1) := by decide +kernel
theorem dX6_clauseWord_56 : decode cX6_clauseWord 56 = .ok (.ldc 119, 2) := by decide +kernel
theorem dX6_clauseWord_58 : decode cX6_clauseWord 58 = .ok (.areturn, 1) := by decide +kernel
theorem dX6_clauseWord_59 : decode cX6_clauseWord 59 = .ok (.ldc 121, 2) := by decide +kernel
theorem dX6_clauseWord_61 : decode cX6_clauseWord 61 = .ok (.areturn, 1) := by decide +kernel
theorem dX6_clauseWord_62 : decode cX6_clauseWord 62 = .ok (.ldc 123, 2) := by decide +kernel
theorem dX6_clauseWord_64 : decode cX6_clauseWord 64 = .ok (.areturn, 1) := by decide +kernel
theorem dX6_clauseWord_65 : decode cX6_clauseWord 65 = .ok (.ldc 125, 2) := by decide +kernel
theorem dX6_clauseWord_67 : decode cX6_clauseWord 67 = .ok (.areturn, 1) := by decide +kernel
theorem dX6_cancelSpelled_0 : decode cX6_cancelSpelled 0 = .ok (.aload_n 0, 1) := by decide +kernel
theorem dX6_cancelSpelled_1 : decode cX6_cancelSpelled 1 = .ok (.iload_n 1, 1) := by decide +kernel
theorem dX6_cancelSpelled_2 : decode cX6_cancelSpelled 2 = .ok (.ldc 127, 2) := by decide +kernel
theorem dX6_cancelSpelled_4 : decode cX6_cancelSpelled 4 = .ok (.invokevirtual 107, 3) := by decide +kernel
theorem dX6_cancelSpelled_7 : decode cX6_cancelSpelled 7 = .ok (.ifCond .eq 5, 3) := by decide +kernel
theorem dX6_cancelSpelled_10 : decode cX6_cancelSpelled 10 = .ok (.iconst 0, 1) := by decide +kernel
theorem dX6_cancelSpelled_11 : decode cX6_cancelSpelled 11 = .ok (.ireturn, 1) := by decide +kernel
theorem dX6_cancelSpelled_12 : decode cX6_cancelSpelled 12 = .ok (.aload_n 0, 1) := by decide +kernel
theorem dX6_cancelSpelled_13 : decode cX6_cancelSpelled 13 = .ok (.iload_n 1, 1) := by decide +kernel
theorem dX6_cancelSpelled_14 : decode cX6_cancelSpelled 14 = .ok (.ldc 129, 2) := by decide +kernel
theorem dX6_cancelSpelled_16 : decode cX6_cancelSpelled 16 = .ok (.invokevirtual 107, 3) := by decide +kernel
theorem dX6_cancelSpelled_19 : decode cX6_cancelSpelled 19 = .ok (.ifCond .eq 5, 3) := by decide +kernel
theorem dX6_cancelSpelled_22 : decode cX6_cancelSpelled 22 = .ok (.iconst 1, 1) := by decide +kernel
theorem dX6_cancelSpelled_23 : decode cX6_cancelSpelled 23 = .ok (.ireturn, 1) := by decide +kernel
theorem dX6_cancelSpelled_24 : decode cX6_cancelSpelled 24 = .ok (.aload_n 0, 1) := by decide +kernel
theorem dX6_cancelSpelled_25 : decode cX6_cancelSpelled 25 = .ok (.iload_n 1, 1) := by decide +kernel
theorem dX6_cancelSpelled_26 : decode cX6_cancelSpelled 26 = .ok (.ldc 131, 2) := by decide +kernel
theorem dX6_cancelSpelled_28 : decode cX6_cancelSpelled 28 = .ok (.invokevirtual 107, 3) := by decide +kernel
theorem dX6_cancelSpelled_31 : decode cX6_cancelSpelled 31 = .ok (.ifCond .eq 7, 3) := by decide +kernel
theorem dX6_cancelSpelled_34 : decode cX6_cancelSpelled 34 = .ok (.iconst 2, 1) := by decide +kernel
theorem dX6_cancelSpelled_35 : decode cX6_cancelSpelled 35 = .ok (.goto 4, 3) := by decide +kernel
theorem dX6_cancelSpelled_38 : decode cX6_cancelSpelled 38 = .ok (.iconst (-1), 1) := by decide +kernel
theorem dX6_cancelSpelled_39 : decode cX6_cancelSpelled 39 = .ok (.ireturn, 1) := by decide +kernel
theorem dX6_yesSpelled_0 : decode cX6_yesSpelled 0 = .ok (.aload_n 0, 1) := by decide +kernel
theorem dX6_yesSpelled_1 : decode cX6_yesSpelled 1 = .ok (.iload_n 1, 1) := by decide +kernel
theorem dX6_yesSpelled_2 : decode cX6_yesSpelled 2 = .ok (.ldc 133, 2) := by decide +kernel
theorem dX6_yesSpelled_4 : decode cX6_yesSpelled 4 = .ok (.invokevirtual 107, 3) := by decide +kernel
theorem dX6_yesSpelled_7 : decode cX6_yesSpelled 7 = .ok (.ifCond .eq 5, 3) := by decide +kernel
theorem dX6_yesSpelled_10 : decode cX6_yesSpelled 10 = .ok (.iconst 1, 1) := by decide +kernel
theorem dX6_yesSpelled_11 : decode cX6_yesSpelled 11 = .ok (.ireturn, 1) := by decide +kernel
theorem dX6_yesSpelled_12 : decode cX6_yesSpelled 12 = .ok (.aload_n 0, 1) := by decide +kernel
theorem dX6_yesSpelled_13 : decode cX6_yesSpelled 13 = .ok (.iload_n 1, 1) := by decide +kernel
theorem dX6_yesSpelled_14 : decode cX6_yesSpelled 14 = .ok (.ldc 135, 2) := by decide +kernel
theorem dX6_yesSpelled_16 : decode cX6_yesSpelled 16 = .ok (.invokevirtual 107, 3) := by decide +kernel
theorem dX6_yesSpelled_19 : decode cX6_yesSpelled 19 = .ok (.ifCond .eq 7, 3) := by decide +kernel
theorem dX6_yesSpelled_22 : decode cX6_yesSpelled 22 = .ok (.iconst 0, 1) := by decide +kernel
theorem dX6_yesSpelled_23 : decode cX6_yesSpelled 23 = .ok (.goto 4, 3) := by decide +kernel
theorem dX6_yesSpelled_26 : decode cX6_yesSpelled 26 = .ok (.iconst (-1), 1) := by decide +kernel
theorem dX6_yesSpelled_27 : decode cX6_yesSpelled 27 = .ok (.ireturn, 1) := by decide +kernel
theorem dX7_init_0 : decode cX7_init 0 = .ok (.aload_n 0, 1) := by decide +kernel
theorem dX7_init_1 : decode cX7_init 1 = .ok (.invokespecial 3, 3) := by decide +kernel
theorem dX7_init_4 : decode cX7_init 4 = .ok (.aload_n 0, 1) := by decide +kernel
theorem dX7_init_5 : decode cX7_init 5 = .ok (.iconst 2, 1) := by decide +kernel
theorem dX7_init_6 : decode cX7_init 6 = .ok (.newarray .int, 2) := by decide +kernel
theorem dX7_init_8 : decode cX7_init 8 = .ok (.putfield 9, 3) := by decide +kernel
theorem dX7_init_11 : decode cX7_init 11 = .ok (.aload_n 0, 1) := by decide +kernel
theorem dX7_init_12 : decode cX7_init 12 = .ok (.bipush 12, 2) := by decide +kernel
theorem dX7_init_14 : decode cX7_init 14 = .ok (.newarray .long, 2) := by decide +kernel
theorem dX7_init_16 : decode cX7_init 16 = .ok (.putfield 17, 3) := by decide +kernel
theorem dX7_init_19 : decode cX7_init 19 = .ok (.aload_n 0, 1) := by decide +kernel
theorem dX7_init_20 : decode cX7_init 20 = .ok (.bipush 12, 2) := by decide +kernel
theorem dX7_init_22 : decode cX7_init 22 = .ok (.newarray .long, 2) := by decide +kernel
theorem dX7_init_24 : decode cX7_init 24 = .ok (.putfield 21, 3) := by decide +kernel
theorem dX7_init_27 : decode cX7_init 27 = .ok (.return_, 1) := by decide +kernel
theorem dX7_difference_0 : decode cX7_difference 0 = .ok (.aload_n 0, 1) := by decide +kernel
theorem dX7_difference_1 : decode cX7_difference 1 = .ok (.getfield 9, 3) := by decide +kernel
theorem dX7_difference_4 : decode cX7_difference 4 = .ok (.iconst 0, 1) := by decide +kernel
theorem dX7_difference_5 : decode cX7_difference 5 = .ok (.iaload, 1) := by decide +kernel
theorem dX7_difference_6 : decode cX7_difference 6 = .ok (.aload_n 0, 1) := by decide +kernel
theorem dX7_difference_7 : decode cX7_difference 7 = .ok (.getfield 9, 3) := by decide +kernel
theorem dX7_difference_10 : decode cX7_difference 10 = .ok (.iconst 1, 1) := by decide +kernel
theorem dX7_difference_11 : decode cX7_difference 11 = .ok (.iaload, 1) := by decide +kernel
theorem dX7_difference_12 : decode cX7_difference 12 = .ok (.isub, 1) := by decide +kernel
theorem dX7_difference_13 : decode cX7_difference 13 = .ok (.ireturn, 1) := by decide +kernel
theorem dX7_work_0 : decode cX7_work 0 = .ok (.aload_n 0, 1) := by decide +kernel
theorem dX7_work_1 : decode cX7_work 1 = .ok (.aload_n 1, 1) := by decide +kernel
theorem dX7_work_2 : decode cX7_work 2 = .ok (.aload_n 2, 1) := by decide +kernel
theorem dX7_work_3 : decode cX7_work 3 = .ok (.invokestatic 24, 3) := by decide +kernel
theorem dX7_work_6 : decode cX7_work 6 = .ok (.putfield 28, 3) := by decide +kernel
theorem dX7_work_9 : decode cX7_work 9 = .ok (.aload_n 0, 1) := by decide +kernel
theorem dX7_work_10 : decode cX7_work 10 = .ok (.getfield 28, 3) := by decide +kernel
theorem dX7_work_13 : decode cX7_work 13 = .ok (.aload_n 1, 1) := by decide +kernel
theorem dX7_work_14 : decode cX7_work 14 = .ok (.invokevirtual 32, 3) := by decide +kernel
theorem dX7_work_17 : decode cX7_work 17 = .ok (.iand, 1) := by decide +kernel
theorem dX7_work_18 : decode cX7_work 18 = .ok (.istore 4, 2) := by decide +kernel
theorem dX7_work_20 : decode cX7_work 20 = .ok (.aload_n 0, 1) := by decide +kernel
theorem dX7_work_21 : decode cX7_work 21 = .ok (.getfield 28, 3) := by decide +kernel
theorem dX7_work_24 : decode cX7_work 24 = .ok (.iload 4, 2) := by decide +kernel
theorem dX7_work_26 : decode cX7_work 26 = .ok (.iconst (-1), 1) := by decide +kernel
theorem dX7_work_27 : decode cX7_work 27 = .ok (.ixor, 1) := by decide +kernel
theorem dX7_work_28 : decode cX7_work 28 = .ok (.iand, 1) := by decide +kernel
theorem dX7_work_29 : decode cX7_work 29 = .ok (.istore 5, 2) := by decide +kernel
theorem dX7_work_31 : decode cX7_work 31 = .ok (.aload_n 0, 1) := by decide +kernel
theorem dX7_work_32 : decode cX7_work 32 = .ok (.aload_n 1, 1) := by decide +kernel
theorem dX7_work_33 : decode cX7_work 33 = .ok (.iload 4, 2) := by decide +kernel
theorem dX7_work_35 : decode cX7_work 35 = .ok (.aload_n 2, 1) := by decide +kernel
theorem dX7_work_36 : decode cX7_work 36 = .ok (.getfield 36, 3) := by decide +kernel
theorem dX7_work_39 : decode cX7_work 39 = .ok (.iconst 5, 1) := by decide +kernel
theorem dX7_work_40 : decode cX7_work 40 = .ok (.iaload, 1) := by decide +kernel
theorem dX7_work_41 : decode cX7_work 41 = .ok (.invokestatic 41, 3) := by decide +kernel
theorem dX7_work_44 : decode cX7_work 44 = .ok (.putfield 45, 3) := by decide +kernel
theorem dX7_work_47 : decode cX7_work 47 = .ok (.aload_n 0, 1) := by decide +kernel
theorem dX7_work_48 : decode cX7_work 48 = .ok (.iconst 0, 1) := by decide +kernel
theorem dX7_work_49 : decode cX7_work 49 = .ok (.putfield 48, 3) := by decide +kernel
theorem dX7_work_52 : decode cX7_work 52 = .ok (.aload_n 0, 1) := by decide +kernel
theorem dX7_work_53 : decode cX7_work 53 = .ok (.aload_n 1, 1) := by decide +kernel
theorem dX7_work_54 : decode cX7_work 54 = .ok (.iload_n 3, 1) := by decide +kernel
theorem dX7_work_55 : decode cX7_work 55 = .ok (.invokevirtual 51, 3) := by decide +kernel
theorem dX7_work_58 : decode cX7_work 58 = .ok (.iconst 0, 1) := by decide +kernel
theorem dX7_work_59 : decode cX7_work 59 = .ok (.istore 6, 2) := by decide +kernel
theorem dX7_work_61 : decode cX7_work 61 = .ok (.iload 6, 2) := by decide +kernel
theorem dX7_work_63 : decode cX7_work 63 = .ok (.iconst 2, 1) := by decide +kernel
theorem dX7_work_64 : decode cX7_work 64 = .ok (.if_icmp .ge 105, 3) := by decide +kernel
theorem dX7_work_67 : decode cX7_work 67 = .ok (.aload_n 1, 1) := by decide +kernel
theorem dX7_work_68 : decode cX7_work 68 = .ok (.iload 6, 2) := by decide +kernel
theorem dX7_work_70 : decode cX7_work 70 = .ok (.invokevirtual 55, 3) := by decide +kernel
theorem dX7_work_73 : decode cX7_work 73 = .ok (.istore 7, 2) := by decide +kernel
theorem dX7_work_75 : decode cX7_work 75 = .ok (.aload_n 0, 1) := by decide +kernel
theorem dX7_work_76 : decode cX7_work 76 = .ok (.iload 5, 2) := by decide +kernel
theorem dX7_work_78 : decode cX7_work 78 = .ok (.iload 7, 2) := by decide +kernel
theorem dX7_work_80 : decode cX7_work 80 = .ok (.iand, 1) := by decide +kernel
theorem dX7_work_81 : decode cX7_work 81 = .ok (.iload 5, 2) := by decide +kernel
theorem dX7_work_83 : decode cX7_work 83 = .ok (.iload 7, 2) := by decide +kernel
theorem dX7_work_85 : decode cX7_work 85 = .ok (.iconst (-1), 1) := by decide +kernel
theorem dX7_work_86 : decode cX7_work 86 = .ok (.ixor, 1) := by decide +kernel
theorem dX7_work_87 : decode cX7_work 87 = .ok (.iand, 1) := by decide +kernel
theorem dX7_work_88 : decode cX7_work 88 = .ok (.bipush 10, 2) := by decide +kernel
theorem dX7_work_90 : decode cX7_work 90 = .ok (.aload_n 2, 1) := by decide +kernel
theorem dX7_work_91 : decode cX7_work 91 = .ok (.getfield 36, 3) := by decide +kernel
theorem dX7_work_94 : decode cX7_work 94 = .ok (.iconst 3, 1) := by decide +kernel
theorem dX7_work_95 : decode cX7_work 95 = .ok (.iaload, 1) := by decide +kernel
theorem dX7_work_96 : decode cX7_work 96 = .ok (.imul, 1) := by decide +kernel
theorem dX7_work_97 : decode cX7_work 97 = .ok (.invokevirtual 59, 3) := by decide +kernel
theorem dX7_work_100 : decode cX7_work 100 = .ok (.istore 8, 2) := by decide +kernel
theorem dX7_work_102 : decode cX7_work 102 = .ok (.iload 8, 2) := by decide +kernel
theorem dX7_work_104 : decode cX7_work 104 = .ok (.aload_n 2, 1) := by decide +kernel
theorem dX7_work_105 : decode cX7_work 105 = .ok (.getfield 36, 3) := by decide +kernel
theorem dX7_work_108 : decode cX7_work 108 = .ok (.iconst 2, 1) := by decide +kernel
theorem dX7_work_109 : decode cX7_work 109 = .ok (.iaload, 1) := by decide +kernel
theorem dX7_work_110 : decode cX7_work 110 = .ok (.invokestatic 63, 3) := by decide +kernel
theorem dX7_work_113 : decode cX7_work 113 = .ok (.istore 8, 2) := by decide +kernel
theorem dX7_work_115 : decode cX7_work 115 = .ok (.aload_n 0, 1) := by decide +kernel
theorem dX7_work_116 : decode cX7_work 116 = .ok (.dup, 1) := by decide +kernel
theorem dX7_work_117 : decode cX7_work 117 = .ok (.getfield 48, 3) := by decide +kernel
theorem dX7_work_120 : decode cX7_work 120 = .ok (.iload 8, 2) := by decide +kernel
theorem dX7_work_122 : decode cX7_work 122 = .ok (.ior, 1) := by decide +kernel
theorem dX7_work_123 : decode cX7_work 123 = .ok (.putfield 48, 3) := by decide +kernel
theorem dX7_work_126 : decode cX7_work 126 = .ok (.aload_n 0, 1) := by decide +kernel
theorem dX7_work_127 : decode cX7_work 127 = .ok (.getfield 9, 3) := by decide +kernel
theorem dX7_work_130 : decode cX7_work 130 = .ok (.iload 6, 2) := by decide +kernel
theorem dX7_work_132 : decode cX7_work 132 = .ok (.aload_n 2, 1) := by decide +kernel
theorem dX7_work_133 : decode cX7_work 133 = .ok (.getfield 36, 3) := by decide +kernel
theorem dX7_work_136 : decode cX7_work 136 = .ok (.iconst 0, 1) := by decide +kernel
theorem dX7_work_137 : decode cX7_work 137 = .ok (.iaload, 1) := by decide +kernel
theorem dX7_work_138 : decode cX7_work 138 = .ok (.aload_n 0, 1) := by decide +kernel
theorem dX7_work_139 : decode cX7_work 139 = .ok (.getfield 45, 3) := by decide +kernel
theorem dX7_work_142 : decode cX7_work 142 = .ok (.iload 7, 2) := by decide +kernel
theorem dX7_work_144 : decode cX7_work 144 = .ok (.iand, 1) := by decide +kernel
theorem dX7_work_145 : decode cX7_work 145 = .ok (.invokestatic 67, 3) := by decide +kernel
theorem dX7_work_148 : decode cX7_work 148 = .ok (.imul, 1) := by decide +kernel
theorem dX7_work_149 : decode cX7_work 149 = .ok (.aload_n 2, 1) := by decide +kernel
theorem dX7_work_150 : decode cX7_work 150 = .ok (.getfield 36, 3) := by decide +kernel
theorem dX7_work_153 : decode cX7_work 153 = .ok (.iconst 1, 1) := by decide +kernel
theorem dX7_work_154 : decode cX7_work 154 = .ok (.iaload, 1) := by decide +kernel
theorem dX7_work_155 : decode cX7_work 155 = .ok (.iload 8, 2) := by decide +kernel
theorem dX7_work_157 : decode cX7_work 157 = .ok (.invokestatic 67, 3) := by decide +kernel
theorem dX7_work_160 : decode cX7_work 160 = .ok (.imul, 1) := by decide +kernel
theorem dX7_work_161 : decode cX7_work 161 = .ok (.iadd, 1) := by decide +kernel
theorem dX7_work_162 : decode cX7_work 162 = .ok (.iastore, 1) := by decide +kernel
theorem dX7_work_163 : decode cX7_work 163 = .ok (.iinc 6 1, 3) := by decide +kernel
theorem dX7_work_166 : decode cX7_work 166 = .ok (.goto (-105), 3) := by decide +kernel
theorem dX7_work_169 : decode cX7_work 169 = .ok (.return_, 1) := by decide +kernel
theorem dX7_disputedCounts_0 : decode cX7_disputedCounts 0 = .ok (.aload_n 1, 1) := by decide +kernel
theorem dX7_disputedCounts_1 : decode cX7_disputedCounts 1 = .ok (.aload_n 2, 1) := by decide +kernel
theorem dX7_disputedCounts_2 : decode cX7_disputedCounts 2 = .ok (.invokestatic 24, 3) := by decide +kernel
theorem dX7_disputedCounts_5 : decode cX7_disputedCounts 5 = .ok (.istore_n 3, 1) := by decide +kernel
theorem dX7_disputedCounts_6 : decode cX7_disputedCounts 6 = .ok (.iconst 0, 1) := by decide +kernel
theorem dX7_disputedCounts_7 : decode cX7_disputedCounts 7 = .ok (.istore 4, 2) := by decide +kernel
theorem dX7_disputedCounts_9 : decode cX7_disputedCounts 9 = .ok (.iload 4, 2) := by decide +kernel
theorem dX7_disputedCounts_11 : decode cX7_disputedCounts 11 = .ok (.aload_n 1, 1) := by decide +kernel
theorem dX7_disputedCounts_12 : decode cX7_disputedCounts 12 = .ok (.getfield 72, 3) := by decide +kernel
theorem dX7_disputedCounts_15 : decode cX7_disputedCounts 15 = .ok (.if_icmp .ge 33, 3) := by decide +kernel
theorem dX7_disputedCounts_18 : decode cX7_disputedCounts 18 = .ok (.iload_n 3, 1) := by decide +kernel
theorem dX7_disputedCounts_19 : decode cX7_disputedCounts 19 = .ok (.iload 4, 2) := by decide +kernel
theorem dX7_disputedCounts_21 : decode cX7_disputedCounts 21 = .ok (.ishr, 1) := by decide +kernel
theorem dX7_disputedCounts_22 : decode cX7_disputedCounts 22 = .ok (.iconst 1, 1) := by decide +kernel
theorem dX7_disputedCounts_23 : decode cX7_disputedCounts 23 = .ok (.iand, 1) := by decide +kernel
theorem dX7_disputedCounts_24 : decode cX7_disputedCounts 24 = .ok (.ifCond .eq 18, 3) := by decide +kernel
theorem dX7_disputedCounts_27 : decode cX7_disputedCounts 27 = .ok (.aload_n 1, 1) := by decide +kernel
theorem dX7_disputedCounts_28 : decode cX7_disputedCounts 28 = .ok (.getfield 75, 3) := by decide +kernel
theorem dX7_disputedCounts_31 : decode cX7_disputedCounts 31 = .ok (.iload 4, 2) := by decide +kernel
theorem dX7_disputedCounts_33 : decode cX7_disputedCounts 33 = .ok (.aaload, 1) := by decide +kernel
theorem dX7_disputedCounts_34 : decode cX7_disputedCounts 34 = .ok (.invokevirtual 79, 3) := by decide +kernel
theorem dX7_disputedCounts_37 : decode cX7_disputedCounts 37 = .ok (.ifCond .eq 5, 3) := by decide +kernel
theorem dX7_disputedCounts_40 : decode cX7_disputedCounts 40 = .ok (.iconst 1, 1) := by decide +kernel
theorem dX7_disputedCounts_41 : decode cX7_disputedCounts 41 = .ok (.ireturn, 1) := by decide +kernel
theorem dX7_disputedCounts_42 : decode cX7_disputedCounts 42 = .ok (.iinc 4 1, 3) := by decide +kernel
theorem dX7_disputedCounts_45 : decode cX7_disputedCounts 45 = .ok (.goto (-36), 3) := by decide +kernel
theorem dX7_disputedCounts_48 : decode cX7_disputedCounts 48 = .ok (.iconst 0, 1) := by decide +kernel
theorem dX7_disputedCounts_49 : decode cX7_disputedCounts 49 = .ok (.ireturn, 1) := by decide +kernel
theorem dX7_countingOf_0 : decode cX7_countingOf 0 = .ok (.aload_n 1, 1) := by decide +kernel
theorem dX7_countingOf_1 : decode cX7_countingOf 1 = .ok (.getfield 36, 3) := by decide +kernel
theorem dX7_countingOf_4 : decode cX7_countingOf 4 = .ok (.bipush 6, 2) := by decide +kernel
theorem dX7_countingOf_6 : decode cX7_countingOf 6 = .ok (.iaload, 1) := by decide +kernel
theorem dX7_countingOf_7 : decode cX7_countingOf 7 = .ok (.ifCond .ne 7, 3) := by decide +kernel
theorem dX7_countingOf_10 : decode cX7_countingOf 10 = .ok (.iconst 1, 1) := by decide +kernel
theorem dX7_countingOf_11 : decode cX7_countingOf 11 = .ok (.goto 4, 3) := by decide +kernel
theorem dX7_countingOf_14 : decode cX7_countingOf 14 = .ok (.iconst 0, 1) := by decide +kernel
theorem dX7_countingOf_15 : decode cX7_countingOf 15 = .ok (.istore_n 2, 1) := by decide +kernel
theorem dX7_countingOf_16 : decode cX7_countingOf 16 = .ok (.aload_n 1, 1) := by decide +kernel
theorem dX7_countingOf_17 : decode cX7_countingOf 17 = .ok (.getfield 36, 3) := by decide +kernel
theorem dX7_countingOf_20 : decode cX7_countingOf 20 = .ok (.bipush 7, 2) := by decide +kernel
theorem dX7_countingOf_22 : decode cX7_countingOf 22 = .ok (.iaload, 1) := by decide +kernel
theorem dX7_countingOf_23 : decode cX7_countingOf 23 = .ok (.ifCond .ne 7, 3) := by decide +kernel
theorem dX7_countingOf_26 : decode cX7_countingOf 26 = .ok (.iconst 1, 1) := by decide +kernel
theorem dX7_countingOf_27 : decode cX7_countingOf 27 = .ok (.goto 4, 3) := by decide +kernel
theorem dX7_countingOf_30 : decode cX7_countingOf 30 = .ok (.iconst 0, 1) := by decide +kernel
theorem dX7_countingOf_31 : decode cX7_countingOf 31 = .ok (.istore_n 3, 1) := by decide +kernel
theorem dX7_countingOf_32 : decode cX7_countingOf 32 = .ok (.iconst 0, 1) := by decide +kernel
theorem dX7_countingOf_33 : decode cX7_countingOf 33 = .ok (.istore 4, 2) := by decide +kernel
theorem dX7_countingOf_35 : decode cX7_countingOf 35 = .ok (.iconst 0, 1) := by decide +kernel
theorem dX7_countingOf_36 : decode cX7_countingOf 36 = .ok (.istore 5, 2) := by decide +kernel
theorem dX7_countingOf_38 : decode cX7_countingOf 38 = .ok (.iload 5, 2) := by decide +kernel
theorem dX7_countingOf_40 : decode cX7_countingOf 40 = .ok (.aload_n 0, 1) := by decide +kernel
theorem dX7_countingOf_41 : decode cX7_countingOf 41 = .ok (.getfield 72, 3) := by decide +kernel
theorem dX7_countingOf_44 : decode cX7_countingOf 44 = .ok (.if_icmp .ge 95, 3) := by decide +kernel
theorem dX7_countingOf_47 : decode cX7_countingOf 47 = .ok (.aload_n 0, 1) := by decide +kernel
theorem dX7_countingOf_48 : decode cX7_countingOf 48 = .ok (.getfield 75, 3) := by decide +kernel
theorem dX7_countingOf_51 : decode cX7_countingOf 51 = .ok (.iload 5, 2) := by decide +kernel
theorem dX7_countingOf_53 : decode cX7_countingOf 53 = .ok (.aaload, 1) := by decide +kernel
theorem dX7_countingOf_54 : decode cX7_countingOf 54 = .ok (.astore 6, 2) := by decide +kernel
theorem dX7_countingOf_56 : decode cX7_countingOf 56 = .ok (.aload 6, 2) := by decide +kernel
theorem dX7_countingOf_58 : decode cX7_countingOf 58 = .ok (.getfield 85, 3) := by decide +kernel
theorem dX7_countingOf_61 : decode cX7_countingOf 61 = .ok (.ifCond .ne 19, 3) := by decide +kernel
theorem dX7_countingOf_64 : decode cX7_countingOf 64 = .ok (.aload 6, 2) := by decide +kernel
theorem dX7_countingOf_66 : decode cX7_countingOf 66 = .ok (.getfield 89, 3) := by decide +kernel
theorem dX7_countingOf_69 : decode cX7_countingOf 69 = .ok (.ifCond .ne 7, 3) := by decide +kernel
theorem dX7_countingOf_72 : decode cX7_countingOf 72 = .ok (.iload_n 2, 1) := by decide +kernel
theorem dX7_countingOf_73 : decode cX7_countingOf 73 = .ok (.ifCond .ne 7, 3) := by decide +kernel
theorem dX7_countingOf_76 : decode cX7_countingOf 76 = .ok (.iconst 1, 1) := by decide +kernel
theorem dX7_countingOf_77 : decode cX7_countingOf 77 = .ok (.goto 4, 3) := by decide +kernel
theorem dX7_countingOf_80 : decode cX7_countingOf 80 = .ok (.iconst 0, 1) := by decide +kernel
theorem dX7_countingOf_81 : decode cX7_countingOf 81 = .ok (.istore 7, 2) := by decide +kernel
theorem dX7_countingOf_83 : decode cX7_countingOf 83 = .ok (.iload 7, 2) := by decide +kernel
theorem dX7_countingOf_85 : decode cX7_countingOf 85 = .ok (.ifCond .eq 35, 3) := by decide +kernel
theorem dX7_countingOf_88 : decode cX7_countingOf 88 = .ok (.iload_n 3, 1) := by decide +kernel
theorem dX7_countingOf_89 : decode cX7_countingOf 89 = .ok (.ifCond .eq 31, 3) := by decide +kernel
theorem dX7_countingOf_92 : decode cX7_countingOf 92 = .ok (.aload_n 0, 1) := by decide +kernel
theorem dX7_countingOf_93 : decode cX7_countingOf 93 = .ok (.iload 5, 2) := by decide +kernel
theorem dX7_countingOf_95 : decode cX7_countingOf 95 = .ok (.invokevirtual 92, 3) := by decide +kernel
theorem dX7_countingOf_98 : decode cX7_countingOf 98 = .ok (.aload_n 0, 1) := by decide +kernel
theorem dX7_countingOf_99 : decode cX7_countingOf 99 = .ok (.iconst 1, 1) := by decide +kernel
theorem dX7_countingOf_100 : decode cX7_countingOf 100 = .ok (.aload 6, 2) := by decide +kernel
theorem dX7_countingOf_102 : decode cX7_countingOf 102 = .ok (.getfield 95, 3) := by decide +kernel
theorem dX7_countingOf_105 : decode cX7_countingOf 105 = .ok (.isub, 1) := by decide +kernel
theorem dX7_countingOf_106 : decode cX7_countingOf 106 = .ok (.invokevirtual 55, 3) := by decide +kernel
theorem dX7_countingOf_109 : decode cX7_countingOf 109 = .ok (.iand, 1) := by decide +kernel
theorem dX7_countingOf_110 : decode cX7_countingOf 110 = .ok (.ifCond .ne 7, 3) := by decide +kernel
theorem dX7_countingOf_113 : decode cX7_countingOf 113 = .ok (.iconst 1, 1) := by decide +kernel
theorem dX7_countingOf_114 : decode cX7_countingOf 114 = .ok (.goto 4, 3) := by decide +kernel
theorem dX7_countingOf_117 : decode cX7_countingOf 117 = .ok (.iconst 0, 1) := by decide +kernel
theorem dX7_countingOf_118 : decode cX7_countingOf 118 = .ok (.istore 7, 2) := by decide +kernel
theorem dX7_countingOf_120 : decode cX7_countingOf 120 = .ok (.iload 4, 2) := by decide +kernel
theorem dX7_countingOf_122 : decode cX7_countingOf 122 = .ok (.iload 7, 2) := by decide +kernel
theorem dX7_countingOf_124 : decode cX7_countingOf 124 = .ok (.invokestatic 98, 3) := by decide +kernel
theorem dX7_countingOf_127 : decode cX7_countingOf 127 = .ok (.iload 5, 2) := by decide +kernel
theorem dX7_countingOf_129 : decode cX7_countingOf 129 = .ok (.ishl, 1) := by decide +kernel
theorem dX7_countingOf_130 : decode cX7_countingOf 130 = .ok (.ior, 1) := by decide +kernel
theorem dX7_countingOf_131 : decode cX7_countingOf 131 = .ok (.istore 4, 2) := by decide +kernel
theorem dX7_countingOf_133 : decode cX7_countingOf 133 = .ok (.iinc 5 1, 3) := by decide +kernel
theorem dX7_countingOf_136 : decode cX7_countingOf 136 = .ok (.goto (-98), 3) := by decide +kernel
theorem dX7_countingOf_139 : decode cX7_countingOf 139 = .ok (.iload 4, 2) := by decide +kernel
theorem dX7_countingOf_141 : decode cX7_countingOf 141 = .ok (.ireturn, 1) := by decide +kernel
theorem dX7_ringersThatPay_0 : decode cX7_ringersThatPay 0 = .ok (.iload_n 2, 1) := by decide +kernel
theorem dX7_ringersThatPay_1 : decode cX7_ringersThatPay 1 = .ok (.ifCond .ne 5, 3) := by decide +kernel
theorem dX7_ringersThatPay_4 : decode cX7_ringersThatPay 4 = .ok (.iload_n 1, 1) := by decide +kernel
theorem dX7_ringersThatPay_5 : decode cX7_ringersThatPay 5 = .ok (.ireturn, 1) := by decide +kernel
theorem dX7_ringersThatPay_6 : decode cX7_ringersThatPay 6 = .ok (.iload_n 2, 1) := by decide +kernel
theorem dX7_ringersThatPay_7 : decode cX7_ringersThatPay 7 = .ok (.iconst 1, 1) := by decide +kernel
theorem dX7_ringersThatPay_8 : decode cX7_ringersThatPay 8 = .ok (.if_icmp .eq 9, 3) := by decide +kernel
theorem dX7_ringersThatPay_11 : decode cX7_ringersThatPay 11 = .ok (.iload_n 1, 1) := by decide +kernel
theorem dX7_ringersThatPay_12 : decode cX7_ringersThatPay 12 = .ok (.iconst 1, 1) := by decide +kernel
theorem dX7_ringersThatPay_13 : decode cX7_ringersThatPay 13 = .ok (.invokestatic 102, 3) := by decide +kernel
theorem dX7_ringersThatPay_16 : decode cX7_ringersThatPay 16 = .ok (.ireturn, 1) := by decide +kernel
theorem dX7_ringersThatPay_17 : decode cX7_ringersThatPay 17 = .ok (.iload_n 1, 1) := by decide +kernel
theorem dX7_ringersThatPay_18 : decode cX7_ringersThatPay 18 = .ok (.aload_n 0, 1) := by decide +kernel
theorem dX7_ringersThatPay_19 : decode cX7_ringersThatPay 19 = .ok (.iconst 0, 1) := by decide +kernel
theorem dX7_ringersThatPay_20 : decode cX7_ringersThatPay 20 = .ok (.invokevirtual 55, 3) := by decide +kernel
theorem dX7_ringersThatPay_23 : decode cX7_ringersThatPay 23 = .ok (.iand, 1) := by decide +kernel
theorem dX7_ringersThatPay_24 : decode cX7_ringersThatPay 24 = .ok (.istore_n 3, 1) := by decide +kernel
theorem dX7_ringersThatPay_25 : decode cX7_ringersThatPay 25 = .ok (.iload_n 1, 1) := by decide +kernel
theorem dX7_ringersThatPay_26 : decode cX7_ringersThatPay 26 = .ok (.aload_n 0, 1) := by decide +kernel
theorem dX7_ringersThatPay_27 : decode cX7_ringersThatPay 27 = .ok (.iconst 1, 1) := by decide +kernel
theorem dX7_ringersThatPay_28 : decode cX7_ringersThatPay 28 = .ok (.invokevirtual 55, 3) := by decide +kernel
theorem dX7_ringersThatPay_31 : decode cX7_ringersThatPay 31 = .ok (.iand, 1) := by decide +kernel
theorem dX7_ringersThatPay_32 : decode cX7_ringersThatPay 32 = .ok (.istore 4, 2) := by decide +kernel
theorem dX7_ringersThatPay_34 : decode cX7_ringersThatPay 34 = .ok (.iload_n 3, 1) := by decide +kernel
theorem dX7_ringersThatPay_35 : decode cX7_ringersThatPay 35 = .ok (.invokestatic 67, 3) := by decide +kernel
theorem dX7_ringersThatPay_38 : decode cX7_ringersThatPay 38 = .ok (.iload 4, 2) := by decide +kernel
theorem dX7_ringersThatPay_40 : decode cX7_ringersThatPay 40 = .ok (.invokestatic 67, 3) := by decide +kernel
theorem dX7_ringersThatPay_43 : decode cX7_ringersThatPay 43 = .ok (.isub, 1) := by decide +kernel
theorem dX7_ringersThatPay_44 : decode cX7_ringersThatPay 44 = .ok (.istore 5, 2) := by decide +kernel
theorem dX7_ringersThatPay_46 : decode cX7_ringersThatPay 46 = .ok (.iload 5, 2) := by decide +kernel
theorem dX7_ringersThatPay_48 : decode cX7_ringersThatPay 48 = .ok (.ifCond .le 12, 3) := by decide +kernel
theorem dX7_ringersThatPay_51 : decode cX7_ringersThatPay 51 = .ok (.iload_n 3, 1) := by decide +kernel
theorem dX7_ringersThatPay_52 : decode cX7_ringersThatPay 52 = .ok (.iload 5, 2) := by decide +kernel
theorem dX7_ringersThatPay_54 : decode cX7_ringersThatPay 54 = .ok (.invokestatic 102, 3) := by decide +kernel
theorem dX7_ringersThatPay_57 : decode cX7_ringersThatPay 57 = .ok (.goto 11, 3) := by decide +kernel
theorem dX7_ringersThatPay_60 : decode cX7_ringersThatPay 60 = .ok (.iload 4, 2) := by decide +kernel
theorem dX7_ringersThatPay_62 : decode cX7_ringersThatPay 62 = .ok (.iload 5, 2) := by decide +kernel
theorem dX7_ringersThatPay_64 : decode cX7_ringersThatPay 64 = .ok (.ineg, 1) := by decide +kernel
theorem dX7_ringersThatPay_65 : decode cX7_ringersThatPay 65 = .ok (.invokestatic 102, 3) := by decide +kernel
theorem dX7_ringersThatPay_68 : decode cX7_ringersThatPay 68 = .ok (.ireturn, 1) := by decide +kernel
theorem dX7_latest_0 : decode cX7_latest 0 = .ok (.iconst 0, 1) := by decide +kernel
theorem dX7_latest_1 : decode cX7_latest 1 = .ok (.istore_n 2, 1) := by decide +kernel
theorem dX7_latest_2 : decode cX7_latest 2 = .ok (.bipush 11, 2) := by decide +kernel
theorem dX7_latest_4 : decode cX7_latest 4 = .ok (.istore_n 3, 1) := by decide +kernel
theorem dX7_latest_5 : decode cX7_latest 5 = .ok (.iload_n 3, 1) := by decide +kernel
theorem dX7_latest_6 : decode cX7_latest 6 = .ok (.ifCond .lt 25, 3) := by decide +kernel
theorem dX7_latest_9 : decode cX7_latest 9 = .ok (.iload_n 2, 1) := by decide +kernel
theorem dX7_latest_10 : decode cX7_latest 10 = .ok (.invokestatic 67, 3) := by decide +kernel
theorem dX7_latest_13 : decode cX7_latest 13 = .ok (.iload_n 1, 1) := by decide +kernel
theorem dX7_latest_14 : decode cX7_latest 14 = .ok (.if_icmp .ge 17, 3) := by decide +kernel
theorem dX7_latest_17 : decode cX7_latest 17 = .ok (.iload_n 2, 1) := by decide +kernel
theorem dX7_latest_18 : decode cX7_latest 18 = .ok (.iload_n 0, 1) := by decide +kernel
theorem dX7_latest_19 : decode cX7_latest 19 = .ok (.iconst 1, 1) := by decide +kernel
theorem dX7_latest_20 : decode cX7_latest 20 = .ok (.iload_n 3, 1) := by decide +kernel
theorem dX7_latest_21 : decode cX7_latest 21 = .ok (.ishl, 1) := by decide +kernel
theorem dX7_latest_22 : decode cX7_latest 22 = .ok (.iand, 1) := by decide +kernel
theorem dX7_latest_23 : decode cX7_latest 23 = .ok (.ior, 1) := by decide +kernel
theorem dX7_latest_24 : decode cX7_latest 24 = .ok (.istore_n 2, 1) := by decide +kernel
theorem dX7_latest_25 : decode cX7_latest 25 = .ok (.iinc 3 (-1), 3) := by decide +kernel
theorem dX7_latest_28 : decode cX7_latest 28 = .ok (.goto (-23), 3) := by decide +kernel
theorem dX7_latest_31 : decode cX7_latest 31 = .ok (.iload_n 2, 1) := by decide +kernel
theorem dX7_latest_32 : decode cX7_latest 32 = .ok (.ireturn, 1) := by decide +kernel
theorem dX7_earliest_0 : decode cX7_earliest 0 = .ok (.iconst 0, 1) := by decide +kernel
theorem dX7_earliest_1 : decode cX7_earliest 1 = .ok (.istore_n 2, 1) := by decide +kernel
theorem dX7_earliest_2 : decode cX7_earliest 2 = .ok (.iconst 0, 1) := by decide +kernel
theorem dX7_earliest_3 : decode cX7_earliest 3 = .ok (.istore_n 3, 1) := by decide +kernel
theorem dX7_earliest_4 : decode cX7_earliest 4 = .ok (.iload_n 3, 1) := by decide +kernel
theorem dX7_earliest_5 : decode cX7_earliest 5 = .ok (.bipush 12, 2) := by decide +kernel
theorem dX7_earliest_7 : decode cX7_earliest 7 = .ok (.if_icmp .ge 25, 3) := by decide +kernel
theorem dX7_earliest_10 : decode cX7_earliest 10 = .ok (.iload_n 2, 1) := by decide +kernel
theorem dX7_earliest_11 : decode cX7_earliest 11 = .ok (.invokestatic 67, 3) := by decide +kernel
theorem dX7_earliest_14 : decode cX7_earliest 14 = .ok (.iload_n 1, 1) := by decide +kernel
theorem dX7_earliest_15 : decode cX7_earliest 15 = .ok (.if_icmp .ge 17, 3) := by decide +kernel
theorem dX7_earliest_18 : decode cX7_earliest 18 = .ok (.iload_n 2, 1) := by decide +kernel
theorem dX7_earliest_19 : decode cX7_earliest 19 = .ok (.iload_n 0, 1) := by decide +kernel
theorem dX7_earliest_20 : decode cX7_earliest 20 = .ok (.iconst 1, 1) := by decide +kernel
theorem dX7_earliest_21 : decode cX7_earliest 21 = .ok (.iload_n 3, 1) := by decide +kernel
theorem dX7_earliest_22 : decode cX7_earliest 22 = .ok (.ishl, 1) := by decide +kernel
theorem dX7_earliest_23 : decode cX7_earliest 23 = .ok (.iand, 1) := by decide +kernel
theorem dX7_earliest_24 : decode cX7_earliest 24 = .ok (.ior, 1) := by decide +kernel
theorem dX7_earliest_25 : decode cX7_earliest 25 = .ok (.istore_n 2, 1) := by decide +kernel
theorem dX7_earliest_26 : decode cX7_earliest 26 = .ok (.iinc 3 1, 3) := by decide +kernel
theorem dX7_earliest_29 : decode cX7_earliest 29 = .ok (.goto (-25), 3) := by decide +kernel
theorem dX7_earliest_32 : decode cX7_earliest 32 = .ok (.iload_n 2, 1) := by decide +kernel
theorem dX7_earliest_33 : decode cX7_earliest 33 = .ok (.ireturn, 1) := by decide +kernel
theorem dX7_readNearness_0 : decode cX7_readNearness 0 = .ok (.iconst 0, 1) := by decide +kernel
theorem dX7_readNearness_1 : decode cX7_readNearness 1 = .ok (.istore_n 3, 1) := by decide +kernel
theorem dX7_readNearness_2 : decode cX7_readNearness 2 = .ok (.iload_n 3, 1) := by decide +kernel
theorem dX7_readNearness_3 : decode cX7_readNearness 3 = .ok (.aload_n 1, 1) := by decide +kernel
theorem dX7_readNearness_4 : decode cX7_readNearness 4 = .ok (.getfield 72, 3) := by decide +kernel
theorem dX7_readNearness_7 : decode cX7_readNearness 7 = .ok (.if_icmp .ge 51, 3) := by decide +kernel
theorem dX7_readNearness_10 : decode cX7_readNearness 10 = .ok (.aload_n 1, 1) := by decide +kernel
theorem dX7_readNearness_11 : decode cX7_readNearness 11 = .ok (.getfield 75, 3) := by decide +kernel
theorem dX7_readNearness_14 : decode cX7_readNearness 14 = .ok (.iload_n 3, 1) := by decide +kernel
theorem dX7_readNearness_15 : decode cX7_readNearness 15 = .ok (.aaload, 1) := by decide +kernel
theorem dX7_readNearness_16 : decode cX7_readNearness 16 = .ok (.astore 4, 2) := by decide +kernel
theorem dX7_readNearness_18 : decode cX7_readNearness 18 = .ok (.aload 4, 2) := by decide +kernel
theorem dX7_readNearness_20 : decode cX7_readNearness 20 = .ok (.iload_n 2, 1) := by decide +kernel
theorem dX7_readNearness_21 : decode cX7_readNearness 21 = .ok (.invokestatic 105, 3) := by decide +kernel
theorem dX7_readNearness_24 : decode cX7_readNearness 24 = .ok (.istore 5, 2) := by decide +kernel
theorem dX7_readNearness_26 : decode cX7_readNearness 26 = .ok (.aload_n 0, 1) := by decide +kernel
theorem dX7_readNearness_27 : decode cX7_readNearness 27 = .ok (.getfield 17, 3) := by decide +kernel
theorem dX7_readNearness_30 : decode cX7_readNearness 30 = .ok (.iload_n 3, 1) := by decide +kernel
theorem dX7_readNearness_31 : decode cX7_readNearness 31 = .ok (.aload 4, 2) := by decide +kernel
theorem dX7_readNearness_33 : decode cX7_readNearness 33 = .ok (.iload 5, 2) := by decide +kernel
theorem dX7_readNearness_35 : decode cX7_readNearness 35 = .ok (.invokevirtual 109, 3) := by decide +kernel
theorem dX7_readNearness_38 : decode cX7_readNearness 38 = .ok (.lastore, 1) := by decide +kernel
theorem dX7_readNearness_39 : decode cX7_readNearness 39 = .ok (.aload_n 0, 1) := by decide +kernel
theorem dX7_readNearness_40 : decode cX7_readNearness 40 = .ok (.getfield 21, 3) := by decide +kernel
theorem dX7_readNearness_43 : decode cX7_readNearness 43 = .ok (.iload_n 3, 1) := by decide +kernel
theorem dX7_readNearness_44 : decode cX7_readNearness 44 = .ok (.aload 4, 2) := by decide +kernel
theorem dX7_readNearness_46 : decode cX7_readNearness 46 = .ok (.iload 5, 2) := by decide +kernel
theorem dX7_readNearness_48 : decode cX7_readNearness 48 = .ok (.invokevirtual 113, 3) := by decide +kernel
theorem dX7_readNearness_51 : decode cX7_readNearness 51 = .ok (.lastore, 1) := by decide +kernel
theorem dX7_readNearness_52 : decode cX7_readNearness 52 = .ok (.iinc 3 1, 3) := by decide +kernel
theorem dX7_readNearness_55 : decode cX7_readNearness 55 = .ok (.goto (-53), 3) := by decide +kernel
theorem dX7_readNearness_58 : decode cX7_readNearness 58 = .ok (.return_, 1) := by decide +kernel
theorem dX7_aheadOf_0 : decode cX7_aheadOf 0 = .ok (.iconst 0, 1) := by decide +kernel
theorem dX7_aheadOf_1 : decode cX7_aheadOf 1 = .ok (.istore 4, 2) := by decide +kernel
theorem dX7_aheadOf_3 : decode cX7_aheadOf 3 = .ok (.iconst 0, 1) := by decide +kernel
theorem dX7_aheadOf_4 : decode cX7_aheadOf 4 = .ok (.istore 5, 2) := by decide +kernel
theorem dX7_aheadOf_6 : decode cX7_aheadOf 6 = .ok (.iload 5, 2) := by decide +kernel
theorem dX7_aheadOf_8 : decode cX7_aheadOf 8 = .ok (.bipush 12, 2) := by decide +kernel
theorem dX7_aheadOf_10 : decode cX7_aheadOf 10 = .ok (.if_icmp .ge 38, 3) := by decide +kernel
theorem dX7_aheadOf_13 : decode cX7_aheadOf 13 = .ok (.iload_n 1, 1) := by decide +kernel
theorem dX7_aheadOf_14 : decode cX7_aheadOf 14 = .ok (.iload 5, 2) := by decide +kernel
theorem dX7_aheadOf_16 : decode cX7_aheadOf 16 = .ok (.ishr, 1) := by decide +kernel
theorem dX7_aheadOf_17 : decode cX7_aheadOf 17 = .ok (.iconst 1, 1) := by decide +kernel
theorem dX7_aheadOf_18 : decode cX7_aheadOf 18 = .ok (.iand, 1) := by decide +kernel
theorem dX7_aheadOf_19 : decode cX7_aheadOf 19 = .ok (.ifCond .eq 23, 3) := by decide +kernel
theorem dX7_aheadOf_22 : decode cX7_aheadOf 22 = .ok (.aload_n 0, 1) := by decide +kernel
theorem dX7_aheadOf_23 : decode cX7_aheadOf 23 = .ok (.iload 5, 2) := by decide +kernel
theorem dX7_aheadOf_25 : decode cX7_aheadOf 25 = .ok (.iload_n 2, 1) := by decide +kernel
theorem dX7_aheadOf_26 : decode cX7_aheadOf 26 = .ok (.iload_n 3, 1) := by decide +kernel
theorem dX7_aheadOf_27 : decode cX7_aheadOf 27 = .ok (.invokevirtual 115, 3) := by decide +kernel
theorem dX7_aheadOf_30 : decode cX7_aheadOf 30 = .ok (.ifCond .eq 12, 3) := by decide +kernel
theorem dX7_aheadOf_33 : decode cX7_aheadOf 33 = .ok (.iload 4, 2) := by decide +kernel
theorem dX7_aheadOf_35 : decode cX7_aheadOf 35 = .ok (.iconst 1, 1) := by decide +kernel
theorem dX7_aheadOf_36 : decode cX7_aheadOf 36 = .ok (.iload 5, 2) := by decide +kernel
theorem dX7_aheadOf_38 : decode cX7_aheadOf 38 = .ok (.ishl, 1) := by decide +kernel
theorem dX7_aheadOf_39 : decode cX7_aheadOf 39 = .ok (.ior, 1) := by decide +kernel
theorem dX7_aheadOf_40 : decode cX7_aheadOf 40 = .ok (.istore 4, 2) := by decide +kernel
theorem dX7_aheadOf_42 : decode cX7_aheadOf 42 = .ok (.iinc 5 1, 3) := by decide +kernel
theorem dX7_aheadOf_45 : decode cX7_aheadOf 45 = .ok (.goto (-39), 3) := by decide +kernel
theorem dX7_aheadOf_48 : decode cX7_aheadOf 48 = .ok (.iload 4, 2) := by decide +kernel
theorem dX7_aheadOf_50 : decode cX7_aheadOf 50 = .ok (.ireturn, 1) := by decide +kernel
theorem dX7_isAhead_0 : decode cX7_isAhead 0 = .ok (.iconst 0, 1) := by decide +kernel
theorem dX7_isAhead_1 : decode cX7_isAhead 1 = .ok (.istore 4, 2) := by decide +kernel
theorem dX7_isAhead_3 : decode cX7_isAhead 3 = .ok (.iload 4, 2) := by decide +kernel
theorem dX7_isAhead_5 : decode cX7_isAhead 5 = .ok (.bipush 12, 2) := by decide +kernel
theorem dX7_isAhead_7 : decode cX7_isAhead 7 = .ok (.if_icmp .ge 67, 3) := by decide +kernel
theorem dX7_isAhead_10 : decode cX7_isAhead 10 = .ok (.iload_n 2, 1) := by decide +kernel
theorem dX7_isAhead_11 : decode cX7_isAhead 11 = .ok (.iload 4, 2) := by decide +kernel
theorem dX7_isAhead_13 : decode cX7_isAhead 13 = .ok (.ishr, 1) := by decide +kernel
theorem dX7_isAhead_14 : decode cX7_isAhead 14 = .ok (.iconst 1, 1) := by decide +kernel
theorem dX7_isAhead_15 : decode cX7_isAhead 15 = .ok (.iand, 1) := by decide +kernel
theorem dX7_isAhead_16 : decode cX7_isAhead 16 = .ok (.ifCond .eq 7, 3) := by decide +kernel
theorem dX7_isAhead_19 : decode cX7_isAhead 19 = .ok (.iconst 1, 1) := by decide +kernel
theorem dX7_isAhead_20 : decode cX7_isAhead 20 = .ok (.goto 4, 3) := by decide +kernel
theorem dX7_isAhead_23 : decode cX7_isAhead 23 = .ok (.iconst 0, 1) := by decide +kernel
theorem dX7_isAhead_24 : decode cX7_isAhead 24 = .ok (.istore 5, 2) := by decide +kernel
theorem dX7_isAhead_26 : decode cX7_isAhead 26 = .ok (.iload 5, 2) := by decide +kernel
theorem dX7_isAhead_28 : decode cX7_isAhead 28 = .ok (.ifCond .eq 40, 3) := by decide +kernel
theorem dX7_isAhead_31 : decode cX7_isAhead 31 = .ok (.aload_n 0, 1) := by decide +kernel
theorem dX7_isAhead_32 : decode cX7_isAhead 32 = .ok (.getfield 17, 3) := by decide +kernel
theorem dX7_isAhead_35 : decode cX7_isAhead 35 = .ok (.iload_n 1, 1) := by decide +kernel
theorem dX7_isAhead_36 : decode cX7_isAhead 36 = .ok (.laload, 1) := by decide +kernel
theorem dX7_isAhead_37 : decode cX7_isAhead 37 = .ok (.aload_n 0, 1) := by decide +kernel
theorem dX7_isAhead_38 : decode cX7_isAhead 38 = .ok (.getfield 21, 3) := by decide +kernel
theorem dX7_isAhead_41 : decode cX7_isAhead 41 = .ok (.iload_n 1, 1) := by decide +kernel
theorem dX7_isAhead_42 : decode cX7_isAhead 42 = .ok (.laload, 1) := by decide +kernel
theorem dX7_isAhead_43 : decode cX7_isAhead 43 = .ok (.iload_n 3, 1) := by decide +kernel
theorem dX7_isAhead_44 : decode cX7_isAhead 44 = .ok (.i2l, 1) := by decide +kernel
theorem dX7_isAhead_45 : decode cX7_isAhead 45 = .ok (.ladd, 1) := by decide +kernel
theorem dX7_isAhead_46 : decode cX7_isAhead 46 = .ok (.aload_n 0, 1) := by decide +kernel
theorem dX7_isAhead_47 : decode cX7_isAhead 47 = .ok (.getfield 17, 3) := by decide +kernel
theorem dX7_isAhead_50 : decode cX7_isAhead 50 = .ok (.iload 4, 2) := by decide +kernel
theorem dX7_isAhead_52 : decode cX7_isAhead 52 = .ok (.laload, 1) := by decide +kernel
theorem dX7_isAhead_53 : decode cX7_isAhead 53 = .ok (.aload_n 0, 1) := by decide +kernel
theorem dX7_isAhead_54 : decode cX7_isAhead 54 = .ok (.getfield 21, 3) := by decide +kernel
theorem dX7_isAhead_57 : decode cX7_isAhead 57 = .ok (.iload 4, 2) := by decide +kernel
theorem dX7_isAhead_59 : decode cX7_isAhead 59 = .ok (.laload, 1) := by decide +kernel
theorem dX7_isAhead_60 : decode cX7_isAhead 60 = .ok (.invokestatic 119, 3) := by decide +kernel
theorem dX7_isAhead_63 : decode cX7_isAhead 63 = .ok (.ifCond .lt 5, 3) := by decide +kernel
theorem dX7_isAhead_66 : decode cX7_isAhead 66 = .ok (.iconst 0, 1) := by decide +kernel
theorem dX7_isAhead_67 : decode cX7_isAhead 67 = .ok (.ireturn, 1) := by decide +kernel
theorem dX7_isAhead_68 : decode cX7_isAhead 68 = .ok (.iinc 4 1, 3) := by decide +kernel
theorem dX7_isAhead_71 : decode cX7_isAhead 71 = .ok (.goto (-68), 3) := by decide +kernel
theorem dX7_isAhead_74 : decode cX7_isAhead 74 = .ok (.iconst 1, 1) := by decide +kernel
theorem dX7_isAhead_75 : decode cX7_isAhead 75 = .ok (.ireturn, 1) := by decide +kernel
theorem dX7_readingOf_0 : decode cX7_readingOf 0 = .ok (.iload_n 1, 1) := by decide +kernel
theorem dX7_readingOf_1 : decode cX7_readingOf 1 = .ok (.iconst (-1), 1) := by decide +kernel
theorem dX7_readingOf_2 : decode cX7_readingOf 2 = .ok (.if_icmp .ne 5, 3) := by decide +kernel
theorem dX7_readingOf_5 : decode cX7_readingOf 5 = .ok (.iconst 0, 1) := by decide +kernel
theorem dX7_readingOf_6 : decode cX7_readingOf 6 = .ok (.ireturn, 1) := by decide +kernel
theorem dX7_readingOf_7 : decode cX7_readingOf 7 = .ok (.aload_n 0, 1) := by decide +kernel
theorem dX7_readingOf_8 : decode cX7_readingOf 8 = .ok (.getfield 95, 3) := by decide +kernel
theorem dX7_readingOf_11 : decode cX7_readingOf 11 = .ok (.iload_n 1, 1) := by decide +kernel
theorem dX7_readingOf_12 : decode cX7_readingOf 12 = .ok (.if_icmp .ne 7, 3) := by decide +kernel
theorem dX7_readingOf_15 : decode cX7_readingOf 15 = .ok (.iconst 1, 1) := by decide +kernel
theorem dX7_readingOf_16 : decode cX7_readingOf 16 = .ok (.goto 4, 3) := by decide +kernel
theorem dX7_readingOf_19 : decode cX7_readingOf 19 = .ok (.iconst 2, 1) := by decide +kernel
theorem dX7_readingOf_20 : decode cX7_readingOf 20 = .ok (.ireturn, 1) := by decide +kernel
theorem dX8_init_0 : decode cX8_init 0 = .ok (.aload_n 0, 1) := by decide +kernel
theorem dX8_init_1 : decode cX8_init 1 = .ok (.invokespecial 3, 3) := by decide +kernel
theorem dX8_init_4 : decode cX8_init 4 = .ok (.aload_n 0, 1) := by decide +kernel
theorem dX8_init_5 : decode cX8_init 5 = .ok (.bipush 100, 2) := by decide +kernel
theorem dX8_init_7 : decode cX8_init 7 = .ok (.newarray .int, 2) := by decide +kernel
theorem dX8_init_9 : decode cX8_init 9 = .ok (.putfield 11, 3) := by decide +kernel
theorem dX8_init_12 : decode cX8_init 12 = .ok (.aload_n 0, 1) := by decide +kernel
theorem dX8_init_13 : decode cX8_init 13 = .ok (.iconst (-1), 1) := by decide +kernel
theorem dX8_init_14 : decode cX8_init 14 = .ok (.putfield 15, 3) := by decide +kernel
theorem dX8_init_17 : decode cX8_init 17 = .ok (.return_, 1) := by decide +kernel
theorem dX8_add_0 : decode cX8_add 0 = .ok (.aload_n 0, 1) := by decide +kernel
theorem dX8_add_1 : decode cX8_add 1 = .ok (.getfield 19, 3) := by decide +kernel
theorem dX8_add_4 : decode cX8_add 4 = .ok (.bipush 100, 2) := by decide +kernel
theorem dX8_add_6 : decode cX8_add 6 = .ok (.if_icmp .ge 23, 3) := by decide +kernel
theorem dX8_add_9 : decode cX8_add 9 = .ok (.aload_n 0, 1) := by decide +kernel
theorem dX8_add_10 : decode cX8_add 10 = .ok (.getfield 11, 3) := by decide +kernel
theorem dX8_add_13 : decode cX8_add 13 = .ok (.aload_n 0, 1) := by decide +kernel
theorem dX8_add_14 : decode cX8_add 14 = .ok (.getfield 19, 3) := by decide +kernel
theorem dX8_add_17 : decode cX8_add 17 = .ok (.iload_n 1, 1) := by decide +kernel
theorem dX8_add_18 : decode cX8_add 18 = .ok (.iastore, 1) := by decide +kernel
theorem dX8_add_19 : decode cX8_add 19 = .ok (.aload_n 0, 1) := by decide +kernel
theorem dX8_add_20 : decode cX8_add 20 = .ok (.dup, 1) := by decide +kernel
theorem dX8_add_21 : decode cX8_add 21 = .ok (.getfield 19, 3) := by decide +kernel
theorem dX8_add_24 : decode cX8_add 24 = .ok (.iconst 1, 1) := by decide +kernel
theorem dX8_add_25 : decode cX8_add 25 = .ok (.iadd, 1) := by decide +kernel
theorem dX8_add_26 : decode cX8_add 26 = .ok (.putfield 19, 3) := by decide +kernel
theorem dX8_add_29 : decode cX8_add 29 = .ok (.return_, 1) := by decide +kernel
theorem dX8_clear_0 : decode cX8_clear 0 = .ok (.aload_n 0, 1) := by decide +kernel
theorem dX8_clear_1 : decode cX8_clear 1 = .ok (.iconst 0, 1) := by decide +kernel
theorem dX8_clear_2 : decode cX8_clear 2 = .ok (.putfield 19, 3) := by decide +kernel
theorem dX8_clear_5 : decode cX8_clear 5 = .ok (.return_, 1) := by decide +kernel
theorem dX8_startReading_0 : decode cX8_startReading 0 = .ok (.aload_n 0, 1) := by decide +kernel
theorem dX8_startReading_1 : decode cX8_startReading 1 = .ok (.iconst 0, 1) := by decide +kernel
theorem dX8_startReading_2 : decode cX8_startReading 2 = .ok (.putfield 22, 3) := by decide +kernel
theorem dX8_startReading_5 : decode cX8_startReading 5 = .ok (.aload_n 0, 1) := by decide +kernel
theorem dX8_startReading_6 : decode cX8_startReading 6 = .ok (.iconst 0, 1) := by decide +kernel
theorem dX8_startReading_7 : decode cX8_startReading 7 = .ok (.putfield 25, 3) := by decide +kernel
theorem dX8_startReading_10 : decode cX8_startReading 10 = .ok (.aload_n 0, 1) := by decide +kernel
theorem dX8_startReading_11 : decode cX8_startReading 11 = .ok (.iconst (-1), 1) := by decide +kernel
theorem dX8_startReading_12 : decode cX8_startReading 12 = .ok (.putfield 15, 3) := by decide +kernel
theorem dX8_startReading_15 : decode cX8_startReading 15 = .ok (.return_, 1) := by decide +kernel
theorem dX8_isSound_0 : decode cX8_isSound 0 = .ok (.aload_n 0, 1) := by decide +kernel
theorem dX8_isSound_1 : decode cX8_isSound 1 = .ok (.getfield 25, 3) := by decide +kernel
theorem dX8_isSound_4 : decode cX8_isSound 4 = .ok (.ifCond .ne 7, 3) := by decide +kernel
theorem dX8_isSound_7 : decode cX8_isSound 7 = .ok (.iconst 1, 1) := by decide +kernel
theorem dX8_isSound_8 : decode cX8_isSound 8 = .ok (.goto 4, 3) := by decide +kernel
theorem dX8_isSound_11 : decode cX8_isSound 11 = .ok (.iconst 0, 1) := by decide +kernel
theorem dX8_isSound_12 : decode cX8_isSound 12 = .ok (.ireturn, 1) := by decide +kernel
theorem dX8_refuse_0 : decode cX8_refuse 0 = .ok (.aload_n 0, 1) := by decide +kernel
theorem dX8_refuse_1 : decode cX8_refuse 1 = .ok (.iload_n 1, 1) := by decide +kernel
theorem dX8_refuse_2 : decode cX8_refuse 2 = .ok (.putfield 25, 3) := by decide +kernel
theorem dX8_refuse_5 : decode cX8_refuse 5 = .ok (.aload_n 0, 1) := by decide +kernel
theorem dX8_refuse_6 : decode cX8_refuse 6 = .ok (.iload_n 2, 1) := by decide +kernel
theorem dX8_refuse_7 : decode cX8_refuse 7 = .ok (.putfield 15, 3) := by decide +kernel
theorem dX8_refuse_10 : decode cX8_refuse 10 = .ok (.return_, 1) := by decide +kernel
theorem dX8_byteAt_0 : decode cX8_byteAt 0 = .ok (.iload_n 1, 1) := by decide +kernel
theorem dX8_byteAt_1 : decode cX8_byteAt 1 = .ok (.iconst 0, 1) := by decide +kernel
theorem dX8_byteAt_2 : decode cX8_byteAt 2 = .ok (.aload_n 0, 1) := by decide +kernel
theorem dX8_byteAt_3 : decode cX8_byteAt 3 = .ok (.getfield 19, 3) := by decide +kernel
theorem dX8_byteAt_6 : decode cX8_byteAt 6 = .ok (.iconst 1, 1) := by decide +kernel
theorem dX8_byteAt_7 : decode cX8_byteAt 7 = .ok (.isub, 1) := by decide +kernel
theorem dX8_byteAt_8 : decode cX8_byteAt 8 = .ok (.invokestatic 28, 3) := by decide +kernel
theorem dX8_byteAt_11 : decode cX8_byteAt 11 = .ok (.ifCond .eq 12, 3) := by decide +kernel
theorem dX8_byteAt_14 : decode cX8_byteAt 14 = .ok (.aload_n 0, 1) := by decide +kernel
theorem dX8_byteAt_15 : decode cX8_byteAt 15 = .ok (.getfield 11, 3) := by decide +kernel
theorem dX8_byteAt_18 : decode cX8_byteAt 18 = .ok (.iload_n 1, 1) := by decide +kernel
theorem dX8_byteAt_19 : decode cX8_byteAt 19 = .ok (.iaload, 1) := by decide +kernel
theorem dX8_byteAt_20 : decode cX8_byteAt 20 = .ok (.goto 4, 3) := by decide +kernel
theorem dX8_byteAt_23 : decode cX8_byteAt 23 = .ok (.iconst (-1), 1) := by decide +kernel
theorem dX8_byteAt_24 : decode cX8_byteAt 24 = .ok (.ireturn, 1) := by decide +kernel
theorem dX8_skipBlanks_0 : decode cX8_skipBlanks 0 = .ok (.aload_n 0, 1) := by decide +kernel
theorem dX8_skipBlanks_1 : decode cX8_skipBlanks 1 = .ok (.getfield 22, 3) := by decide +kernel
theorem dX8_skipBlanks_4 : decode cX8_skipBlanks 4 = .ok (.aload_n 0, 1) := by decide +kernel
theorem dX8_skipBlanks_5 : decode cX8_skipBlanks 5 = .ok (.getfield 19, 3) := by decide +kernel
theorem dX8_skipBlanks_8 : decode cX8_skipBlanks 8 = .ok (.if_icmp .ge 29, 3) := by decide +kernel
theorem dX8_skipBlanks_11 : decode cX8_skipBlanks 11 = .ok (.aload_n 0, 1) := by decide +kernel
theorem dX8_skipBlanks_12 : decode cX8_skipBlanks 12 = .ok (.aload_n 0, 1) := by decide +kernel
theorem dX8_skipBlanks_13 : decode cX8_skipBlanks 13 = .ok (.getfield 22, 3) := by decide +kernel
theorem dX8_skipBlanks_16 : decode cX8_skipBlanks 16 = .ok (.invokevirtual 32, 3) := by decide +kernel
theorem dX8_skipBlanks_19 : decode cX8_skipBlanks 19 = .ok (.bipush 32, 2) := by decide +kernel
theorem dX8_skipBlanks_21 : decode cX8_skipBlanks 21 = .ok (.if_icmp .ne 16, 3) := by decide +kernel
theorem dX8_skipBlanks_24 : decode cX8_skipBlanks 24 = .ok (.aload_n 0, 1) := by decide +kernel
theorem dX8_skipBlanks_25 : decode cX8_skipBlanks 25 = .ok (.dup, 1) := by decide +kernel
theorem dX8_skipBlanks_26 : decode cX8_skipBlanks 26 = .ok (.getfield 22, 3) := by decide +kernel
theorem dX8_skipBlanks_29 : decode cX8_skipBlanks 29 = .ok (.iconst 1, 1) := by decide +kernel
theorem dX8_skipBlanks_30 : decode cX8_skipBlanks 30 = .ok (.iadd, 1) := by decide +kernel
theorem dX8_skipBlanks_31 : decode cX8_skipBlanks 31 = .ok (.putfield 22, 3) := by decide +kernel
theorem dX8_skipBlanks_34 : decode cX8_skipBlanks 34 = .ok (.goto (-34), 3) := by decide +kernel
theorem dX8_skipBlanks_37 : decode cX8_skipBlanks 37 = .ok (.return_, 1) := by decide +kernel
theorem dX8_wordStop_0 : decode cX8_wordStop 0 = .ok (.aload_n 0, 1) := by decide +kernel
theorem dX8_wordStop_1 : decode cX8_wordStop 1 = .ok (.getfield 22, 3) := by decide +kernel
theorem dX8_wordStop_4 : decode cX8_wordStop 4 = .ok (.istore_n 1, 1) := by decide +kernel
theorem dX8_wordStop_5 : decode cX8_wordStop 5 = .ok (.iload_n 1, 1) := by decide +kernel
theorem dX8_wordStop_6 : decode cX8_wordStop 6 = .ok (.aload_n 0, 1) := by decide +kernel
theorem dX8_wordStop_7 : decode cX8_wordStop 7 = .ok (.getfield 19, 3) := by decide +kernel
theorem dX8_wordStop_10 : decode cX8_wordStop 10 = .ok (.if_icmp .ge 24, 3) := by decide +kernel
theorem dX8_wordStop_13 : decode cX8_wordStop 13 = .ok (.aload_n 0, 1) := by decide +kernel
theorem dX8_wordStop_14 : decode cX8_wordStop 14 = .ok (.iload_n 1, 1) := by decide +kernel
theorem dX8_wordStop_15 : decode cX8_wordStop 15 = .ok (.invokevirtual 32, 3) := by decide +kernel
theorem dX8_wordStop_18 : decode cX8_wordStop 18 = .ok (.bipush 97, 2) := by decide +kernel
theorem dX8_wordStop_20 : decode cX8_wordStop 20 = .ok (.bipush 122, 2) := by decide +kernel
theorem dX8_wordStop_22 : decode cX8_wordStop 22 = .ok (.invokestatic 28, 3) := by decide +kernel
theorem dX8_wordStop_25 : decode cX8_wordStop 25 = .ok (.ifCond .eq 9, 3) := by decide +kernel
theorem dX8_wordStop_28 : decode cX8_wordStop 28 = .ok (.iinc 1 1, 3) := by decide +kernel
theorem dX8_wordStop_31 : decode cX8_wordStop 31 = .ok (.goto (-26), 3) := by decide +kernel
theorem dX8_wordStop_34 : decode cX8_wordStop 34 = .ok (.iload_n 1, 1) := by decide +kernel
theorem dX8_wordStop_35 : decode cX8_wordStop 35 = .ok (.ireturn, 1) := by decide +kernel
theorem dX8_figuresStop_0 : decode cX8_figuresStop 0 = .ok (.aload_n 0, 1) := by decide +kernel
theorem dX8_figuresStop_1 : decode cX8_figuresStop 1 = .ok (.getfield 22, 3) := by decide +kernel
theorem dX8_figuresStop_4 : decode cX8_figuresStop 4 = .ok (.istore_n 1, 1) := by decide +kernel
theorem dX8_figuresStop_5 : decode cX8_figuresStop 5 = .ok (.iload_n 1, 1) := by decide +kernel
theorem dX8_figuresStop_6 : decode cX8_figuresStop 6 = .ok (.aload_n 0, 1) := by decide +kernel
theorem dX8_figuresStop_7 : decode cX8_figuresStop 7 = .ok (.getfield 19, 3) := by decide +kernel
theorem dX8_figuresStop_10 : decode cX8_figuresStop 10 = .ok (.if_icmp .ge 24, 3) := by decide +kernel
theorem dX8_figuresStop_13 : decode cX8_figuresStop 13 = .ok (.aload_n 0, 1) := by decide +kernel
theorem dX8_figuresStop_14 : decode cX8_figuresStop 14 = .ok (.iload_n 1, 1) := by decide +kernel
theorem dX8_figuresStop_15 : decode cX8_figuresStop 15 = .ok (.invokevirtual 32, 3) := by decide +kernel
theorem dX8_figuresStop_18 : decode cX8_figuresStop 18 = .ok (.bipush 48, 2) := by decide +kernel
theorem dX8_figuresStop_20 : decode cX8_figuresStop 20 = .ok (.bipush 57, 2) := by decide +kernel
theorem dX8_figuresStop_22 : decode cX8_figuresStop 22 = .ok (.invokestatic 28, 3) := by decide +kernel
theorem dX8_figuresStop_25 : decode cX8_figuresStop 25 = .ok (.ifCond .eq 9, 3) := by decide +kernel
theorem dX8_figuresStop_28 : decode cX8_figuresStop 28 = .ok (.iinc 1 1, 3) := by decide +kernel
theorem dX8_figuresStop_31 : decode cX8_figuresStop 31 = .ok (.goto (-26), 3) := by decide +kernel
theorem dX8_figuresStop_34 : decode cX8_figuresStop 34 = .ok (.iload_n 1, 1) := by decide +kernel
theorem dX8_figuresStop_35 : decode cX8_figuresStop 35 = .ok (.ireturn, 1) := by decide +kernel
theorem dX8_spells_0 : decode cX8_spells 0 = .ok (.iload_n 1, 1) := by decide +kernel
theorem dX8_spells_1 : decode cX8_spells 1 = .ok (.aload_n 0, 1) := by decide +kernel
theorem dX8_spells_2 : decode cX8_spells 2 = .ok (.getfield 22, 3) := by decide +kernel
theorem dX8_spells_5 : decode cX8_spells 5 = .ok (.isub, 1) := by decide +kernel
theorem dX8_spells_6 : decode cX8_spells 6 = .ok (.aload_n 2, 1) := by decide +kernel
theorem dX8_spells_7 : decode cX8_spells 7 = .ok (.invokevirtual 36, 3) := by decide +kernel
theorem dX8_spells_10 : decode cX8_spells 10 = .ok (.if_icmp .eq 5, 3) := by decide +kernel
theorem dX8_spells_13 : decode cX8_spells 13 = .ok (.iconst 0, 1) := by decide +kernel
theorem dX8_spells_14 : decode cX8_spells 14 = .ok (.ireturn, 1) := by decide +kernel
theorem dX8_spells_15 : decode cX8_spells 15 = .ok (.iconst 0, 1) := by decide +kernel
theorem dX8_spells_16 : decode cX8_spells 16 = .ok (.istore_n 3, 1) := by decide +kernel
theorem dX8_spells_17 : decode cX8_spells 17 = .ok (.iload_n 3, 1) := by decide +kernel
theorem dX8_spells_18 : decode cX8_spells 18 = .ok (.aload_n 2, 1) := by decide +kernel
theorem dX8_spells_19 : decode cX8_spells 19 = .ok (.invokevirtual 36, 3) := by decide +kernel
theorem dX8_spells_22 : decode cX8_spells 22 = .ok (.if_icmp .ge 29, 3) := by decide +kernel
theorem dX8_spells_25 : decode cX8_spells 25 = .ok (.aload_n 0, 1) := by decide +kernel
theorem dX8_spells_26 : decode cX8_spells 26 = .ok (.aload_n 0, 1) := by decide +kernel
theorem dX8_spells_27 : decode cX8_spells 27 = .ok (.getfield 22, 3) := by decide +kernel
theorem dX8_spells_30 : decode cX8_spells 30 = .ok (.iload_n 3, 1) := by decide +kernel
theorem dX8_spells_31 : decode cX8_spells 31 = .ok (.iadd, 1) := by decide +kernel
theorem dX8_spells_32 : decode cX8_spells 32 = .ok (.invokevirtual 32, 3) := by decide +kernel
theorem dX8_spells_35 : decode cX8_spells 35 = .ok (.aload_n 2, 1) := by decide +kernel
theorem dX8_spells_36 : decode cX8_spells 36 = .ok (.iload_n 3, 1) := by decide +kernel
theorem dX8_spells_37 : decode cX8_spells 37 = .ok (.invokevirtual 41, 3) := by decide +kernel
theorem dX8_spells_40 : decode cX8_spells 40 = .ok (.if_icmp .eq 5, 3) := by decide +kernel
theorem dX8_spells_43 : decode cX8_spells 43 = .ok (.iconst 0, 1) := by decide +kernel
theorem dX8_spells_44 : decode cX8_spells 44 = .ok (.ireturn, 1) := by decide +kernel
theorem dX8_spells_45 : decode cX8_spells 45 = .ok (.iinc 3 1, 3) := by decide +kernel
theorem dX8_spells_48 : decode cX8_spells 48 = .ok (.goto (-31), 3) := by decide +kernel
theorem dX8_spells_51 : decode cX8_spells 51 = .ok (.iconst 1, 1) := by decide +kernel
theorem dX8_spells_52 : decode cX8_spells 52 = .ok (.ireturn, 1) := by decide +kernel
theorem dX9_init_0 : decode cX9_init 0 = .ok (.aload_n 0, 1) := by decide +kernel
theorem dX9_init_1 : decode cX9_init 1 = .ok (.invokespecial 1, 3) := by decide +kernel
theorem dX9_init_4 : decode cX9_init 4 = .ok (.aload_n 0, 1) := by decide +kernel
theorem dX9_init_5 : decode cX9_init 5 = .ok (.new 7, 3) := by decide +kernel
theorem dX9_init_8 : decode cX9_init 8 = .ok (.dup, 1) := by decide +kernel
theorem dX9_init_9 : decode cX9_init 9 = .ok (.invokespecial 9, 3) := by decide +kernel
theorem dX9_init_12 : decode cX9_init 12 = .ok (.putfield 10, 3) := by decide +kernel
theorem dX9_init_15 : decode cX9_init 15 = .ok (.aload_n 0, 1) := by decide +kernel
theorem dX9_init_16 : decode cX9_init 16 = .ok (.new 16, 3) := by decide +kernel
theorem dX9_init_19 : decode cX9_init 19 = .ok (.dup, 1) := by decide +kernel
theorem dX9_init_20 : decode cX9_init 20 = .ok (.invokespecial 18, 3) := by decide +kernel
theorem dX9_init_23 : decode cX9_init 23 = .ok (.putfield 19, 3) := by decide +kernel
theorem dX9_init_26 : decode cX9_init 26 = .ok (.aload_n 0, 1) := by decide +kernel
theorem dX9_init_27 : decode cX9_init 27 = .ok (.bipush 6, 2) := by decide +kernel
theorem dX9_init_29 : decode cX9_init 29 = .ok (.anewarray 23, 3) := by decide +kernel
theorem dX9_init_32 : decode cX9_init 32 = .ok (.putfield 25, 3) := by decide +kernel
theorem dX9_init_35 : decode cX9_init 35 = .ok (.iconst 0, 1) := by decide +kernel
theorem dX9_init_36 : decode cX9_init 36 = .ok (.istore_n 1, 1) := by decide +kernel
theorem dX9_init_37 : decode cX9_init 37 = .ok (.iload_n 1, 1) := by decide +kernel
theorem dX9_init_38 : decode cX9_init 38 = .ok (.bipush 6, 2) := by decide +kernel
theorem dX9_init_40 : decode cX9_init 40 = .ok (.if_icmp .ge 22, 3) := by decide +kernel
theorem dX9_init_43 : decode cX9_init 43 = .ok (.aload_n 0, 1) := by decide +kernel
theorem dX9_init_44 : decode cX9_init 44 = .ok (.getfield 25, 3) := by decide +kernel
theorem dX9_init_47 : decode cX9_init 47 = .ok (.iload_n 1, 1) := by decide +kernel
theorem dX9_init_48 : decode cX9_init 48 = .ok (.new 23, 3) := by decide +kernel
theorem dX9_init_51 : decode cX9_init 51 = .ok (.dup, 1) := by decide +kernel
theorem dX9_init_52 : decode cX9_init 52 = .ok (.invokespecial 29, 3) := by decide +kernel
theorem dX9_init_55 : decode cX9_init 55 = .ok (.aastore, 1) := by decide +kernel
theorem dX9_init_56 : decode cX9_init 56 = .ok (.iinc 1 1, 3) := by decide +kernel
theorem dX9_init_59 : decode cX9_init 59 = .ok (.goto (-22), 3) := by decide +kernel
theorem dX9_init_62 : decode cX9_init 62 = .ok (.aload_n 0, 1) := by decide +kernel
theorem dX9_init_63 : decode cX9_init 63 = .ok (.new 23, 3) := by decide +kernel
theorem dX9_init_66 : decode cX9_init 66 = .ok (.dup, 1) := by decide +kernel
theorem dX9_init_67 : decode cX9_init 67 = .ok (.invokespecial 29, 3) := by decide +kernel
theorem dX9_init_70 : decode cX9_init 70 = .ok (.putfield 30, 3) := by decide +kernel
theorem dX9_init_73 : decode cX9_init 73 = .ok (.aload_n 0, 1) := by decide +kernel
theorem dX9_init_74 : decode cX9_init 74 = .ok (.new 34, 3) := by decide +kernel
theorem dX9_init_77 : decode cX9_init 77 = .ok (.dup, 1) := by decide +kernel
theorem dX9_init_78 : decode cX9_init 78 = .ok (.invokespecial 36, 3) := by decide +kernel
theorem dX9_init_81 : decode cX9_init 81 = .ok (.putfield 37, 3) := by decide +kernel
theorem dX9_init_84 : decode cX9_init 84 = .ok (.aload_n 0, 1) := by decide +kernel
theorem dX9_init_85 : decode cX9_init 85 = .ok (.new 41, 3) := by decide +kernel
theorem dX9_init_88 : decode cX9_init 88 = .ok (.dup, 1) := by decide +kernel
theorem dX9_init_89 : decode cX9_init 89 = .ok (.invokespecial 43, 3) := by decide +kernel
theorem dX9_init_92 : decode cX9_init 92 = .ok (.putfield 44, 3) := by decide +kernel
theorem dX9_init_95 : decode cX9_init 95 = .ok (.aload_n 0, 1) := by decide +kernel
theorem dX9_init_96 : decode cX9_init 96 = .ok (.new 48, 3) := by decide +kernel
theorem dX9_init_99 : decode cX9_init 99 = .ok (.dup, 1) := by decide +kernel
theorem dX9_init_100 : decode cX9_init 100 = .ok (.invokespecial 50, 3) := by decide +kernel
theorem dX9_init_103 : decode cX9_init 103 = .ok (.putfield 51, 3) := by decide +kernel
theorem dX9_init_106 : decode cX9_init 106 = .ok (.aload_n 0, 1) := by decide +kernel
theorem dX9_init_107 : decode cX9_init 107 = .ok (.new 55, 3) := by decide +kernel
theorem dX9_init_110 : decode cX9_init 110 = .ok (.dup, 1) := by decide +kernel
theorem dX9_init_111 : decode cX9_init 111 = .ok (.invokespecial 57, 3) := by decide +kernel
theorem dX9_init_114 : decode cX9_init 114 = .ok (.putfield 58, 3) := by decide +kernel
theorem dX9_init_117 : decode cX9_init 117 = .ok (.return_, 1) := by decide +kernel
theorem dX9_rake_0 : decode cX9_rake 0 = .ok (.aload_n 0, 1) := by decide +kernel
theorem dX9_rake_1 : decode cX9_rake 1 = .ok (.getfield 10, 3) := by decide +kernel
theorem dX9_rake_4 : decode cX9_rake 4 = .ok (.getfield 62, 3) := by decide +kernel
theorem dX9_rake_7 : decode cX9_rake 7 = .ok (.istore_n 1, 1) := by decide +kernel
theorem dX9_rake_8 : decode cX9_rake 8 = .ok (.aload_n 0, 1) := by decide +kernel
theorem dX9_rake_9 : decode cX9_rake 9 = .ok (.getfield 10, 3) := by decide +kernel
theorem dX9_rake_12 : decode cX9_rake 12 = .ok (.iconst 0, 1) := by decide +kernel
theorem dX9_rake_13 : decode cX9_rake 13 = .ok (.putfield 62, 3) := by decide +kernel
theorem dX9_rake_16 : decode cX9_rake 16 = .ok (.iload_n 1, 1) := by decide +kernel
theorem dX9_rake_17 : decode cX9_rake 17 = .ok (.ireturn, 1) := by decide +kernel
theorem dX9_iron_0 : decode cX9_iron 0 = .ok (.iload_n 1, 1) := by decide +kernel
theorem dX9_iron_1 : decode cX9_iron 1 = .ok (.iconst 0, 1) := by decide +kernel
theorem dX9_iron_2 : decode cX9_iron 2 = .ok (.iconst 1, 1) := by decide +kernel
theorem dX9_iron_3 : decode cX9_iron 3 = .ok (.invokestatic 66, 3) := by decide +kernel
theorem dX9_iron_6 : decode cX9_iron 6 = .ok (.ifCond .eq 22, 3) := by decide +kernel
theorem dX9_iron_9 : decode cX9_iron 9 = .ok (.iload_n 2, 1) := by decide +kernel
theorem dX9_iron_10 : decode cX9_iron 10 = .ok (.iload_n 3, 1) := by decide +kernel
theorem dX9_iron_11 : decode cX9_iron 11 = .ok (.invokestatic 70, 3) := by decide +kernel
theorem dX9_iron_14 : decode cX9_iron 14 = .ok (.ifCond .eq 14, 3) := by decide +kernel
theorem dX9_iron_17 : decode cX9_iron 17 = .ok (.iload 4, 2) := by decide +kernel
theorem dX9_iron_19 : decode cX9_iron 19 = .ok (.iconst 2, 1) := by decide +kernel
theorem dX9_iron_20 : decode cX9_iron 20 = .ok (.bipush 60, 2) := by decide +kernel
theorem dX9_iron_22 : decode cX9_iron 22 = .ok (.invokestatic 66, 3) := by decide +kernel
theorem dX9_iron_25 : decode cX9_iron 25 = .ok (.ifCond .ne 7, 3) := by decide +kernel
theorem dX9_iron_28 : decode cX9_iron 28 = .ok (.sipush (-1002), 3) := by decide +kernel
theorem dX9_iron_31 : decode cX9_iron 31 = .ok (.ireturn, 1) := by decide +kernel
theorem dX9_iron_32 : decode cX9_iron 32 = .ok (.iload 5, 2) := by decide +kernel
theorem dX9_iron_34 : decode cX9_iron 34 = .ok (.iconst 1, 1) := by decide +kernel
theorem dX9_iron_35 : decode cX9_iron 35 = .ok (.iload 4, 2) := by decide +kernel
theorem dX9_iron_37 : decode cX9_iron 37 = .ok (.iconst 1, 1) := by decide +kernel
theorem dX9_iron_38 : decode cX9_iron 38 = .ok (.isub, 1) := by decide +kernel
theorem dX9_iron_39 : decode cX9_iron 39 = .ok (.invokestatic 66, 3) := by decide +kernel
theorem dX9_iron_42 : decode cX9_iron 42 = .ok (.ifCond .eq 14, 3) := by decide +kernel
theorem dX9_iron_45 : decode cX9_iron 45 = .ok (.iload 6, 2) := by decide +kernel
theorem dX9_iron_47 : decode cX9_iron 47 = .ok (.iconst 0, 1) := by decide +kernel
theorem dX9_iron_48 : decode cX9_iron 48 = .ok (.bipush 9, 2) := by decide +kernel
theorem dX9_iron_50 : decode cX9_iron 50 = .ok (.invokestatic 66, 3) := by decide +kernel
theorem dX9_iron_53 : decode cX9_iron 53 = .ok (.ifCond .ne 7, 3) := by decide +kernel
theorem dX9_iron_56 : decode cX9_iron 56 = .ok (.sipush (-1002), 3) := by decide +kernel
theorem dX9_iron_59 : decode cX9_iron 59 = .ok (.ireturn, 1) := by decide +kernel
theorem dX9_iron_60 : decode cX9_iron 60 = .ok (.aload_n 0, 1) := by decide +kernel
theorem dX9_iron_61 : decode cX9_iron 61 = .ok (.getfield 10, 3) := by decide +kernel
theorem dX9_iron_64 : decode cX9_iron 64 = .ok (.getfield 62, 3) := by decide +kernel
theorem dX9_iron_67 : decode cX9_iron 67 = .ok (.bipush 12, 2) := by decide +kernel
theorem dX9_iron_69 : decode cX9_iron 69 = .ok (.if_icmp .lt 7, 3) := by decide +kernel
theorem dX9_iron_72 : decode cX9_iron 72 = .ok (.sipush (-1004), 3) := by decide +kernel
theorem dX9_iron_75 : decode cX9_iron 75 = .ok (.ireturn, 1) := by decide +kernel
theorem dX9_iron_76 : decode cX9_iron 76 = .ok (.aload_n 0, 1) := by decide +kernel
theorem dX9_iron_77 : decode cX9_iron 77 = .ok (.getfield 10, 3) := by decide +kernel
theorem dX9_iron_80 : decode cX9_iron 80 = .ok (.getfield 74, 3) := by decide +kernel
theorem dX9_iron_83 : decode cX9_iron 83 = .ok (.aload_n 0, 1) := by decide +kernel
theorem dX9_iron_84 : decode cX9_iron 84 = .ok (.getfield 10, 3) := by decide +kernel
theorem dX9_iron_87 : decode cX9_iron 87 = .ok (.getfield 62, 3) := by decide +kernel
theorem dX9_iron_90 : decode cX9_iron 90 = .ok (.aaload, 1) := by decide +kernel
theorem dX9_iron_91 : decode cX9_iron 91 = .ok (.iload_n 1, 1) := by decide +kernel
theorem dX9_iron_92 : decode cX9_iron 92 = .ok (.iload_n 2, 1) := by decide +kernel
theorem dX9_iron_93 : decode cX9_iron 93 = .ok (.iload_n 3, 1) := by decide +kernel
theorem dX9_iron_94 : decode cX9_iron 94 = .ok (.iload 4, 2) := by decide +kernel
theorem dX9_iron_96 : decode cX9_iron 96 = .ok (.iload 5, 2) := by decide +kernel
theorem dX9_iron_98 : decode cX9_iron 98 = .ok (.iload 6, 2) := by decide +kernel
theorem dX9_iron_100 : decode cX9_iron 100 = .ok (.iload 7, 2) := by decide +kernel
theorem dX9_iron_102 : decode cX9_iron 102 = .ok (.invokevirtual 78, 3) := by decide +kernel
theorem dX9_iron_105 : decode cX9_iron 105 = .ok (.aload_n 0, 1) := by decide +kernel
theorem dX9_iron_106 : decode cX9_iron 106 = .ok (.getfield 10, 3) := by decide +kernel
theorem dX9_iron_109 : decode cX9_iron 109 = .ok (.dup, 1) := by decide +kernel
theorem dX9_iron_110 : decode cX9_iron 110 = .ok (.getfield 62, 3) := by decide +kernel
theorem dX9_iron_113 : decode cX9_iron 113 = .ok (.iconst 1, 1) := by decide +kernel
theorem dX9_iron_114 : decode cX9_iron 114 = .ok (.iadd, 1) := by decide +kernel
theorem dX9_iron_115 : decode cX9_iron 115 = .ok (.putfield 62, 3) := by decide +kernel
theorem dX9_iron_118 : decode cX9_iron 118 = .ok (.aload_n 0, 1) := by decide +kernel
theorem dX9_iron_119 : decode cX9_iron 119 = .ok (.getfield 10, 3) := by decide +kernel
theorem dX9_iron_122 : decode cX9_iron 122 = .ok (.getfield 62, 3) := by decide +kernel
theorem dX9_iron_125 : decode cX9_iron 125 = .ok (.iconst 1, 1) := by decide +kernel
theorem dX9_iron_126 : decode cX9_iron 126 = .ok (.isub, 1) := by decide +kernel
theorem dX9_iron_127 : decode cX9_iron 127 = .ok (.ireturn, 1) := by decide +kernel
theorem dX9_knock_0 : decode cX9_knock 0 = .ok (.aload_n 0, 1) := by decide +kernel
theorem dX9_knock_1 : decode cX9_knock 1 = .ok (.getfield 10, 3) := by decide +kernel
theorem dX9_knock_4 : decode cX9_knock 4 = .ok (.iload_n 1, 1) := by decide +kernel
theorem dX9_knock_5 : decode cX9_knock 5 = .ok (.invokevirtual 84, 3) := by decide +kernel
theorem dX9_knock_8 : decode cX9_knock 8 = .ok (.astore 4, 2) := by decide +kernel
theorem dX9_knock_10 : decode cX9_knock 10 = .ok (.aload 4, 2) := by decide +kernel
theorem dX9_knock_12 : decode cX9_knock 12 = .ok (.ifnonnull 7, 3) := by decide +kernel
theorem dX9_knock_15 : decode cX9_knock 15 = .ok (.sipush (-1001), 3) := by decide +kernel
theorem dX9_knock_18 : decode cX9_knock 18 = .ok (.ireturn, 1) := by decide +kernel
theorem dX9_knock_19 : decode cX9_knock 19 = .ok (.iload_n 2, 1) := by decide +kernel
theorem dX9_knock_20 : decode cX9_knock 20 = .ok (.iload_n 3, 1) := by decide +kernel
theorem dX9_knock_21 : decode cX9_knock 21 = .ok (.invokestatic 70, 3) := by decide +kernel
theorem dX9_knock_24 : decode cX9_knock 24 = .ok (.ifCond .ne 7, 3) := by decide +kernel
theorem dX9_knock_27 : decode cX9_knock 27 = .ok (.sipush (-1002), 3) := by decide +kernel
theorem dX9_knock_30 : decode cX9_knock 30 = .ok (.ireturn, 1) := by decide +kernel
theorem dX9_knock_31 : decode cX9_knock 31 = .ok (.aload 4, 2) := by decide +kernel
theorem dX9_knock_33 : decode cX9_knock 33 = .ok (.getfield 88, 3) := by decide +kernel
theorem dX9_knock_36 : decode cX9_knock 36 = .ok (.ifCond .eq 7, 3) := by decide +kernel
theorem dX9_knock_39 : decode cX9_knock 39 = .ok (.sipush (-1003), 3) := by decide +kernel
theorem dX9_knock_42 : decode cX9_knock 42 = .ok (.ireturn, 1) := by decide +kernel
theorem dX9_knock_43 : decode cX9_knock 43 = .ok (.aload 4, 2) := by decide +kernel
theorem dX9_knock_45 : decode cX9_knock 45 = .ok (.iload_n 2, 1) := by decide +kernel
theorem dX9_knock_46 : decode cX9_knock 46 = .ok (.iload_n 3, 1) := by decide +kernel
theorem dX9_knock_47 : decode cX9_knock 47 = .ok (.invokevirtual 92, 3) := by decide +kernel
theorem dX9_knock_50 : decode cX9_knock 50 = .ok (.iconst 1, 1) := by decide +kernel
theorem dX9_knock_51 : decode cX9_knock 51 = .ok (.ireturn, 1) := by decide +kernel
theorem dX9_off_0 : decode cX9_off 0 = .ok (.aload_n 0, 1) := by decide +kernel
theorem dX9_off_1 : decode cX9_off 1 = .ok (.getfield 10, 3) := by decide +kernel
theorem dX9_off_4 : decode cX9_off 4 = .ok (.iload_n 1, 1) := by decide +kernel
theorem dX9_off_5 : decode cX9_off 5 = .ok (.invokevirtual 84, 3) := by decide +kernel
theorem dX9_off_8 : decode cX9_off 8 = .ok (.astore_n 2, 1) := by decide +kernel
theorem dX9_off_9 : decode cX9_off 9 = .ok (.aload_n 2, 1) := by decide +kernel
theorem dX9_off_10 : decode cX9_off 10 = .ok (.ifnonnull 7, 3) := by decide +kernel
theorem dX9_off_13 : decode cX9_off 13 = .ok (.sipush (-1001), 3) := by decide +kernel
theorem dX9_off_16 : decode cX9_off 16 = .ok (.ireturn, 1) := by decide +kernel
theorem dX9_off_17 : decode cX9_off 17 = .ok (.aload_n 2, 1) := by decide +kernel
theorem dX9_off_18 : decode cX9_off 18 = .ok (.getfield 88, 3) := by decide +kernel
theorem dX9_off_21 : decode cX9_off 21 = .ok (.ifCond .eq 7, 3) := by decide +kernel
theorem dX9_off_24 : decode cX9_off 24 = .ok (.sipush (-1003), 3) := by decide +kernel
theorem dX9_off_27 : decode cX9_off 27 = .ok (.ireturn, 1) := by decide +kernel
theorem dX9_off_28 : decode cX9_off 28 = .ok (.aload_n 2, 1) := by decide +kernel
theorem dX9_off_29 : decode cX9_off 29 = .ok (.iconst 1, 1) := by decide +kernel
theorem dX9_off_30 : decode cX9_off 30 = .ok (.putfield 88, 3) := by decide +kernel
theorem dX9_off_33 : decode cX9_off 33 = .ok (.iconst 1, 1) := by decide +kernel
theorem dX9_off_34 : decode cX9_off 34 = .ok (.ireturn, 1) := by decide +kernel
theorem dX9_told_0 : decode cX9_told 0 = .ok (.aload_n 0, 1) := by decide +kernel
theorem dX9_told_1 : decode cX9_told 1 = .ok (.getfield 10, 3) := by decide +kernel
theorem dX9_told_4 : decode cX9_told 4 = .ok (.iload_n 1, 1) := by decide +kernel
theorem dX9_told_5 : decode cX9_told 5 = .ok (.invokevirtual 84, 3) := by decide +kernel
theorem dX9_told_8 : decode cX9_told 8 = .ok (.astore_n 3, 1) := by decide +kernel
theorem dX9_told_9 : decode cX9_told 9 = .ok (.aload_n 3, 1) := by decide +kernel
theorem dX9_told_10 : decode cX9_told 10 = .ok (.ifnonnull 7, 3) := by decide +kernel
theorem dX9_told_13 : decode cX9_told 13 = .ok (.sipush (-1001), 3) := by decide +kernel
theorem dX9_told_16 : decode cX9_told 16 = .ok (.ireturn, 1) := by decide +kernel
theorem dX9_told_17 : decode cX9_told 17 = .ok (.iload_n 2, 1) := by decide +kernel
theorem dX9_told_18 : decode cX9_told 18 = .ok (.tableswitch 132 0 9 #[54, 59, 64, 69, 74, 82, 98, 106, 115, 124], 54) := by decide +kernel
theorem dX9_told_72 : decode cX9_told 72 = .ok (.aload_n 3, 1) := by decide +kernel
theorem dX9_told_73 : decode cX9_told 73 = .ok (.getfield 96, 3) := by decide +kernel
theorem dX9_told_76 : decode cX9_told 76 = .ok (.ireturn, 1) := by decide +kernel
theorem dX9_told_77 : decode cX9_told 77 = .ok (.aload_n 3, 1) := by decide +kernel
theorem dX9_told_78 : decode cX9_told 78 = .ok (.getfield 99, 3) := by decide +kernel
theorem dX9_told_81 : decode cX9_told 81 = .ok (.ireturn, 1) := by decide +kernel
theorem dX9_told_82 : decode cX9_told 82 = .ok (.aload_n 3, 1) := by decide +kernel
theorem dX9_told_83 : decode cX9_told 83 = .ok (.getfield 102, 3) := by decide +kernel
theorem dX9_told_86 : decode cX9_told 86 = .ok (.ireturn, 1) := by decide +kernel
theorem dX9_told_87 : decode cX9_told 87 = .ok (.aload_n 3, 1) := by decide +kernel
theorem dX9_told_88 : decode cX9_told 88 = .ok (.invokevirtual 105, 3) := by decide +kernel
theorem dX9_told_91 : decode cX9_told 91 = .ok (.ireturn, 1) := by decide +kernel
theorem dX9_told_92 : decode cX9_told 92 = .ok (.aload_n 3, 1) := by decide +kernel
theorem dX9_told_93 : decode cX9_told 93 = .ok (.invokevirtual 109, 3) := by decide +kernel
theorem dX9_told_96 : decode cX9_told 96 = .ok (.invokestatic 113, 3) := by decide +kernel
theorem dX9_told_99 : decode cX9_told 99 = .ok (.ireturn, 1) := by decide +kernel
theorem dX9_told_100 : decode cX9_told 100 = .ok (.aload_n 3, 1) := by decide +kernel
theorem dX9_told_101 : decode cX9_told 101 = .ok (.invokevirtual 109, 3) := by decide +kernel
theorem dX9_told_104 : decode cX9_told 104 = .ok (.ifCond .eq 7, 3) := by decide +kernel
theorem dX9_told_107 : decode cX9_told 107 = .ok (.iconst (-1), 1) := by decide +kernel
theorem dX9_told_108 : decode cX9_told 108 = .ok (.goto 7, 3) := by decide +kernel
theorem dX9_told_111 : decode cX9_told 111 = .ok (.aload_n 3, 1) := by decide +kernel
theorem dX9_told_112 : decode cX9_told 112 = .ok (.invokevirtual 117, 3) := by decide +kernel
theorem dX9_told_115 : decode cX9_told 115 = .ok (.ireturn, 1) := by decide +kernel
theorem dX9_told_116 : decode cX9_told 116 = .ok (.aload_n 3, 1) := by decide +kernel
theorem dX9_told_117 : decode cX9_told 117 = .ok (.getfield 88, 3) := by decide +kernel
theorem dX9_told_120 : decode cX9_told 120 = .ok (.invokestatic 113, 3) := by decide +kernel
theorem dX9_told_123 : decode cX9_told 123 = .ok (.ireturn, 1) := by decide +kernel
theorem dX9_told_124 : decode cX9_told 124 = .ok (.aload_n 0, 1) := by decide +kernel
theorem dX9_told_125 : decode cX9_told 125 = .ok (.getfield 10, 3) := by decide +kernel
theorem dX9_told_128 : decode cX9_told 128 = .ok (.iload_n 1, 1) := by decide +kernel
theorem dX9_told_129 : decode cX9_told 129 = .ok (.invokevirtual 120, 3) := by decide +kernel
theorem dX9_told_132 : decode cX9_told 132 = .ok (.ireturn, 1) := by decide +kernel
theorem dX9_told_133 : decode cX9_told 133 = .ok (.aload_n 0, 1) := by decide +kernel
theorem dX9_told_134 : decode cX9_told 134 = .ok (.getfield 10, 3) := by decide +kernel
theorem dX9_told_137 : decode cX9_told 137 = .ok (.iload_n 1, 1) := by decide +kernel
theorem dX9_told_138 : decode cX9_told 138 = .ok (.invokevirtual 124, 3) := by decide +kernel
theorem dX9_told_141 : decode cX9_told 141 = .ok (.ireturn, 1) := by decide +kernel
theorem dX9_told_142 : decode cX9_told 142 = .ok (.aload_n 3, 1) := by decide +kernel
theorem dX9_told_143 : decode cX9_told 143 = .ok (.getfield 127, 3) := by decide +kernel
theorem dX9_told_146 : decode cX9_told 146 = .ok (.invokestatic 113, 3) := by decide +kernel
theorem dX9_told_149 : decode cX9_told 149 = .ok (.ireturn, 1) := by decide +kernel
theorem dX9_told_150 : decode cX9_told 150 = .ok (.sipush (-1002), 3) := by decide +kernel
theorem dX9_told_153 : decode cX9_told 153 = .ok (.ireturn, 1) := by decide +kernel
theorem dX9_nearer_0 : decode cX9_nearer 0 = .ok (.aload_n 0, 1) := by decide +kernel
theorem dX9_nearer_1 : decode cX9_nearer 1 = .ok (.getfield 10, 3) := by decide +kernel
theorem dX9_nearer_4 : decode cX9_nearer 4 = .ok (.iload_n 1, 1) := by decide +kernel
theorem dX9_nearer_5 : decode cX9_nearer 5 = .ok (.invokevirtual 84, 3) := by decide +kernel
theorem dX9_nearer_8 : decode cX9_nearer 8 = .ok (.astore 4, 2) := by decide +kernel
theorem dX9_nearer_10 : decode cX9_nearer 10 = .ok (.aload_n 0, 1) := by decide +kernel
theorem dX9_nearer_11 : decode cX9_nearer 11 = .ok (.getfield 10, 3) := by decide +kernel
theorem dX9_nearer_14 : decode cX9_nearer 14 = .ok (.iload_n 2, 1) := by decide +kernel
theorem dX9_nearer_15 : decode cX9_nearer 15 = .ok (.invokevirtual 84, 3) := by decide +kernel
theorem dX9_nearer_18 : decode cX9_nearer 18 = .ok (.astore 5, 2) := by decide +kernel
theorem dX9_nearer_20 : decode cX9_nearer 20 = .ok (.aload 4, 2) := by decide +kernel
theorem dX9_nearer_22 : decode cX9_nearer 22 = .ok (.ifnull 8, 3) := by decide +kernel
theorem dX9_nearer_25 : decode cX9_nearer 25 = .ok (.aload 5, 2) := by decide +kernel
theorem dX9_nearer_27 : decode cX9_nearer 27 = .ok (.ifnonnull 7, 3) := by decide +kernel
theorem dX9_nearer_30 : decode cX9_nearer 30 = .ok (.sipush (-1001), 3) := by decide +kernel
theorem dX9_nearer_33 : decode cX9_nearer 33 = .ok (.ireturn, 1) := by decide +kernel
theorem dX9_nearer_34 : decode cX9_nearer 34 = .ok (.iload_n 3, 1) := by decide +kernel
theorem dX9_nearer_35 : decode cX9_nearer 35 = .ok (.sipush (-9999), 3) := by decide +kernel
theorem dX9_nearer_38 : decode cX9_nearer 38 = .ok (.sipush 9999, 3) := by decide +kernel
theorem dX9_nearer_41 : decode cX9_nearer 41 = .ok (.invokestatic 66, 3) := by decide +kernel
theorem dX9_nearer_44 : decode cX9_nearer 44 = .ok (.ifCond .ne 7, 3) := by decide +kernel
theorem dX9_nearer_47 : decode cX9_nearer 47 = .ok (.sipush (-1002), 3) := by decide +kernel
theorem dX9_nearer_50 : decode cX9_nearer 50 = .ok (.ireturn, 1) := by decide +kernel
theorem dX9_nearer_51 : decode cX9_nearer 51 = .ok (.aload 4, 2) := by decide +kernel
theorem dX9_nearer_53 : decode cX9_nearer 53 = .ok (.invokevirtual 109, 3) := by decide +kernel
theorem dX9_nearer_56 : decode cX9_nearer 56 = .ok (.ifCond .ne 11, 3) := by decide +kernel
theorem dX9_nearer_59 : decode cX9_nearer 59 = .ok (.aload 5, 2) := by decide +kernel
theorem dX9_nearer_61 : decode cX9_nearer 61 = .ok (.invokevirtual 109, 3) := by decide +kernel
theorem dX9_nearer_64 : decode cX9_nearer 64 = .ok (.ifCond .eq 7, 3) := by decide +kernel
theorem dX9_nearer_67 : decode cX9_nearer 67 = .ok (.sipush (-1003), 3) := by decide +kernel
theorem dX9_nearer_70 : decode cX9_nearer 70 = .ok (.ireturn, 1) := by decide +kernel
theorem dX9_nearer_71 : decode cX9_nearer 71 = .ok (.aload 4, 2) := by decide +kernel
theorem dX9_nearer_73 : decode cX9_nearer 73 = .ok (.iconst 0, 1) := by decide +kernel
theorem dX9_nearer_74 : decode cX9_nearer 74 = .ok (.invokevirtual 130, 3) := by decide +kernel
theorem dX9_nearer_77 : decode cX9_nearer 77 = .ok (.ldc2_w 134, 3) := by decide +kernel
theorem dX9_nearer_80 : decode cX9_nearer 80 = .ok (.iload_n 3, 1) := by decide +kernel
theorem dX9_nearer_81 : decode cX9_nearer 81 = .ok (.i2l, 1) := by decide +kernel
theorem dX9_nearer_82 : decode cX9_nearer 82 = .ok (.lmul, 1) := by decide +kernel
theorem dX9_nearer_83 : decode cX9_nearer 83 = .ok (.ladd, 1) := by decide +kernel
theorem dX9_nearer_84 : decode cX9_nearer 84 = .ok (.lstore 6, 2) := by decide +kernel
theorem dX9_nearer_86 : decode cX9_nearer 86 = .ok (.aload 4, 2) := by decide +kernel
theorem dX9_nearer_88 : decode cX9_nearer 88 = .ok (.iconst 0, 1) := by decide +kernel
theorem dX9_nearer_89 : decode cX9_nearer 89 = .ok (.invokevirtual 136, 3) := by decide +kernel
theorem dX9_nearer_92 : decode cX9_nearer 92 = .ok (.lload 6, 2) := by decide +kernel
theorem dX9_nearer_94 : decode cX9_nearer 94 = .ok (.aload 5, 2) := by decide +kernel
theorem dX9_nearer_96 : decode cX9_nearer 96 = .ok (.iconst 0, 1) := by decide +kernel
theorem dX9_nearer_97 : decode cX9_nearer 97 = .ok (.invokevirtual 136, 3) := by decide +kernel
theorem dX9_nearer_100 : decode cX9_nearer 100 = .ok (.aload 5, 2) := by decide +kernel
theorem dX9_nearer_102 : decode cX9_nearer 102 = .ok (.iconst 0, 1) := by decide +kernel
theorem dX9_nearer_103 : decode cX9_nearer 103 = .ok (.invokevirtual 130, 3) := by decide +kernel
theorem dX9_nearer_106 : decode cX9_nearer 106 = .ok (.invokestatic 139, 3) := by decide +kernel
theorem dX9_nearer_109 : decode cX9_nearer 109 = .ok (.ireturn, 1) := by decide +kernel
theorem dX9_count_0 : decode cX9_count 0 = .ok (.iload_n 1, 1) := by decide +kernel
theorem dX9_count_1 : decode cX9_count 1 = .ok (.tableswitch 137 0 9 #[55, 63, 71, 80, 89, 97, 102, 110, 121, 129], 55) := by decide +kernel
theorem dX9_count_56 : decode cX9_count 56 = .ok (.aload_n 0, 1) := by decide +kernel
theorem dX9_count_57 : decode cX9_count 57 = .ok (.getfield 10, 3) := by decide +kernel
theorem dX9_count_60 : decode cX9_count 60 = .ok (.getfield 62, 3) := by decide +kernel
theorem dX9_count_63 : decode cX9_count 63 = .ok (.ireturn, 1) := by decide +kernel
theorem dX9_count_64 : decode cX9_count 64 = .ok (.aload_n 0, 1) := by decide +kernel
theorem dX9_count_65 : decode cX9_count 65 = .ok (.getfield 10, 3) := by decide +kernel
theorem dX9_count_68 : decode cX9_count 68 = .ok (.invokevirtual 143, 3) := by decide +kernel
theorem dX9_count_71 : decode cX9_count 71 = .ok (.ireturn, 1) := by decide +kernel
theorem dX9_count_72 : decode cX9_count 72 = .ok (.aload_n 0, 1) := by decide +kernel
theorem dX9_count_73 : decode cX9_count 73 = .ok (.getfield 10, 3) := by decide +kernel
theorem dX9_count_76 : decode cX9_count 76 = .ok (.iconst 0, 1) := by decide +kernel
theorem dX9_count_77 : decode cX9_count 77 = .ok (.invokevirtual 146, 3) := by decide +kernel
theorem dX9_count_80 : decode cX9_count 80 = .ok (.ireturn, 1) := by decide +kernel
theorem dX9_count_81 : decode cX9_count 81 = .ok (.aload_n 0, 1) := by decide +kernel
theorem dX9_count_82 : decode cX9_count 82 = .ok (.getfield 10, 3) := by decide +kernel
theorem dX9_count_85 : decode cX9_count 85 = .ok (.iconst 1, 1) := by decide +kernel
theorem dX9_count_86 : decode cX9_count 86 = .ok (.invokevirtual 146, 3) := by decide +kernel
theorem dX9_count_89 : decode cX9_count 89 = .ok (.ireturn, 1) := by decide +kernel
theorem dX9_count_90 : decode cX9_count 90 = .ok (.aload_n 0, 1) := by decide +kernel
theorem dX9_count_91 : decode cX9_count 91 = .ok (.getfield 51, 3) := by decide +kernel
theorem dX9_count_94 : decode cX9_count 94 = .ok (.getfield 149, 3) := by decide +kernel
theorem dX9_count_97 : decode cX9_count 97 = .ok (.ireturn, 1) := by decide +kernel
theorem dX9_count_98 : decode cX9_count 98 = .ok (.aload_n 0, 1) := by decide +kernel
theorem dX9_count_99 : decode cX9_count 99 = .ok (.invokevirtual 152, 3) := by decide +kernel
theorem dX9_count_102 : decode cX9_count 102 = .ok (.ireturn, 1) := by decide +kernel
theorem dX9_count_103 : decode cX9_count 103 = .ok (.aload_n 0, 1) := by decide +kernel
theorem dX9_count_104 : decode cX9_count 104 = .ok (.getfield 19, 3) := by decide +kernel
theorem dX9_count_107 : decode cX9_count 107 = .ok (.getfield 155, 3) := by decide +kernel
theorem dX9_count_110 : decode cX9_count 110 = .ok (.ireturn, 1) := by decide +kernel
theorem dX9_count_111 : decode cX9_count 111 = .ok (.aload_n 0, 1) := by decide +kernel
theorem dX9_count_112 : decode cX9_count 112 = .ok (.getfield 51, 3) := by decide +kernel
theorem dX9_count_115 : decode cX9_count 115 = .ok (.getfield 158, 3) := by decide +kernel
theorem dX9_count_118 : decode cX9_count 118 = .ok (.getfield 161, 3) := by decide +kernel
theorem dX9_count_121 : decode cX9_count 121 = .ok (.ireturn, 1) := by decide +kernel
theorem dX9_count_122 : decode cX9_count 122 = .ok (.aload_n 0, 1) := by decide +kernel
theorem dX9_count_123 : decode cX9_count 123 = .ok (.getfield 10, 3) := by decide +kernel
theorem dX9_count_126 : decode cX9_count 126 = .ok (.invokevirtual 162, 3) := by decide +kernel
theorem dX9_count_129 : decode cX9_count 129 = .ok (.ireturn, 1) := by decide +kernel
theorem dX9_count_130 : decode cX9_count 130 = .ok (.aload_n 0, 1) := by decide +kernel
theorem dX9_count_131 : decode cX9_count 131 = .ok (.getfield 10, 3) := by decide +kernel
theorem dX9_count_134 : decode cX9_count 134 = .ok (.invokevirtual 165, 3) := by decide +kernel
theorem dX9_count_137 : decode cX9_count 137 = .ok (.ireturn, 1) := by decide +kernel
theorem dX9_count_138 : decode cX9_count 138 = .ok (.sipush (-1002), 3) := by decide +kernel
theorem dX9_count_141 : decode cX9_count 141 = .ok (.ireturn, 1) := by decide +kernel
theorem dX9_feed_0 : decode cX9_feed 0 = .ok (.iload_n 1, 1) := by decide +kernel
theorem dX9_feed_1 : decode cX9_feed 1 = .ok (.iconst 1, 1) := by decide +kernel
theorem dX9_feed_2 : decode cX9_feed 2 = .ok (.bipush 8, 2) := by decide +kernel
theorem dX9_feed_4 : decode cX9_feed 4 = .ok (.invokestatic 66, 3) := by decide +kernel
theorem dX9_feed_7 : decode cX9_feed 7 = .ok (.ifCond .ne 7, 3) := by decide +kernel
theorem dX9_feed_10 : decode cX9_feed 10 = .ok (.sipush (-1002), 3) := by decide +kernel
theorem dX9_feed_13 : decode cX9_feed 13 = .ok (.ireturn, 1) := by decide +kernel
theorem dX9_feed_14 : decode cX9_feed 14 = .ok (.aload_n 0, 1) := by decide +kernel
theorem dX9_feed_15 : decode cX9_feed 15 = .ok (.getfield 19, 3) := by decide +kernel
theorem dX9_feed_18 : decode cX9_feed 18 = .ok (.getfield 155, 3) := by decide +kernel
theorem dX9_feed_21 : decode cX9_feed 21 = .ok (.iload_n 1, 1) := by decide +kernel
theorem dX9_feed_22 : decode cX9_feed 22 = .ok (.iadd, 1) := by decide +kernel
theorem dX9_feed_23 : decode cX9_feed 23 = .ok (.bipush 100, 2) := by decide +kernel
theorem dX9_feed_25 : decode cX9_feed 25 = .ok (.if_icmp .le 7, 3) := by decide +kernel
theorem dX9_feed_28 : decode cX9_feed 28 = .ok (.sipush (-1004), 3) := by decide +kernel
theorem dX9_feed_31 : decode cX9_feed 31 = .ok (.ireturn, 1) := by decide +kernel
theorem dX9_feed_32 : decode cX9_feed 32 = .ok (.iload_n 1, 1) := by decide +kernel
theorem dX9_feed_33 : decode cX9_feed 33 = .ok (.iconst 1, 1) := by decide +kernel
theorem dX9_feed_34 : decode cX9_feed 34 = .ok (.isub, 1) := by decide +kernel
theorem dX9_feed_35 : decode cX9_feed 35 = .ok (.istore 4, 2) := by decide +kernel
theorem dX9_feed_37 : decode cX9_feed 37 = .ok (.iload 4, 2) := by decide +kernel
theorem dX9_feed_39 : decode cX9_feed 39 = .ok (.ifCond .lt 28, 3) := by decide +kernel
theorem dX9_feed_42 : decode cX9_feed 42 = .ok (.aload_n 0, 1) := by decide +kernel
theorem dX9_feed_43 : decode cX9_feed 43 = .ok (.getfield 19, 3) := by decide +kernel
theorem dX9_feed_46 : decode cX9_feed 46 = .ok (.lload_n 2, 1) := by decide +kernel
theorem dX9_feed_47 : decode cX9_feed 47 = .ok (.bipush 8, 2) := by decide +kernel
theorem dX9_feed_49 : decode cX9_feed 49 = .ok (.iload 4, 2) := by decide +kernel
theorem dX9_feed_51 : decode cX9_feed 51 = .ok (.imul, 1) := by decide +kernel
theorem dX9_feed_52 : decode cX9_feed 52 = .ok (.lushr, 1) := by decide +kernel
theorem dX9_feed_53 : decode cX9_feed 53 = .ok (.l2i, 1) := by decide +kernel
theorem dX9_feed_54 : decode cX9_feed 54 = .ok (.sipush 255, 3) := by decide +kernel
theorem dX9_feed_57 : decode cX9_feed 57 = .ok (.iand, 1) := by decide +kernel
theorem dX9_feed_58 : decode cX9_feed 58 = .ok (.invokevirtual 168, 3) := by decide +kernel
theorem dX9_feed_61 : decode cX9_feed 61 = .ok (.iinc 4 (-1), 3) := by decide +kernel
theorem dX9_feed_64 : decode cX9_feed 64 = .ok (.goto (-27), 3) := by decide +kernel
theorem dX9_feed_67 : decode cX9_feed 67 = .ok (.aload_n 0, 1) := by decide +kernel
theorem dX9_feed_68 : decode cX9_feed 68 = .ok (.getfield 19, 3) := by decide +kernel
theorem dX9_feed_71 : decode cX9_feed 71 = .ok (.getfield 155, 3) := by decide +kernel
theorem dX9_feed_74 : decode cX9_feed 74 = .ok (.ireturn, 1) := by decide +kernel
theorem dX9_rule_0 : decode cX9_rule 0 = .ok (.iload_n 1, 1) := by decide +kernel
theorem dX9_rule_1 : decode cX9_rule 1 = .ok (.invokestatic 172, 3) := by decide +kernel
theorem dX9_rule_4 : decode cX9_rule 4 = .ok (.ifCond .ne 7, 3) := by decide +kernel
theorem dX9_rule_7 : decode cX9_rule 7 = .ok (.sipush (-1001), 3) := by decide +kernel
theorem dX9_rule_10 : decode cX9_rule 10 = .ok (.ireturn, 1) := by decide +kernel
theorem dX9_rule_11 : decode cX9_rule 11 = .ok (.aload_n 0, 1) := by decide +kernel
theorem dX9_rule_12 : decode cX9_rule 12 = .ok (.getfield 30, 3) := by decide +kernel
theorem dX9_rule_15 : decode cX9_rule 15 = .ok (.aload_n 0, 1) := by decide +kernel
theorem dX9_rule_16 : decode cX9_rule 16 = .ok (.getfield 19, 3) := by decide +kernel
theorem dX9_rule_19 : decode cX9_rule 19 = .ok (.invokevirtual 176, 3) := by decide +kernel
theorem dX9_rule_22 : decode cX9_rule 22 = .ok (.istore_n 2, 1) := by decide +kernel
theorem dX9_rule_23 : decode cX9_rule 23 = .ok (.aload_n 0, 1) := by decide +kernel
theorem dX9_rule_24 : decode cX9_rule 24 = .ok (.getfield 19, 3) := by decide +kernel
theorem dX9_rule_27 : decode cX9_rule 27 = .ok (.invokevirtual 180, 3) := by decide +kernel
theorem dX9_rule_30 : decode cX9_rule 30 = .ok (.aload_n 0, 1) := by decide +kernel
theorem dX9_rule_31 : decode cX9_rule 31 = .ok (.getfield 19, 3) := by decide +kernel
theorem dX9_rule_34 : decode cX9_rule 34 = .ok (.invokevirtual 183, 3) := by decide +kernel
theorem dX9_rule_37 : decode cX9_rule 37 = .ok (.ifCond .ne 14, 3) := by decide +kernel
theorem dX9_rule_40 : decode cX9_rule 40 = .ok (.bipush (-10), 2) := by decide +kernel
theorem dX9_rule_42 : decode cX9_rule 42 = .ok (.aload_n 0, 1) := by decide +kernel
theorem dX9_rule_43 : decode cX9_rule 43 = .ok (.getfield 19, 3) := by decide +kernel
theorem dX9_rule_46 : decode cX9_rule 46 = .ok (.getfield 186, 3) := by decide +kernel
theorem dX9_rule_49 : decode cX9_rule 49 = .ok (.isub, 1) := by decide +kernel
theorem dX9_rule_50 : decode cX9_rule 50 = .ok (.ireturn, 1) := by decide +kernel
theorem dX9_rule_51 : decode cX9_rule 51 = .ok (.aload_n 0, 1) := by decide +kernel
theorem dX9_rule_52 : decode cX9_rule 52 = .ok (.getfield 25, 3) := by decide +kernel
theorem dX9_rule_55 : decode cX9_rule 55 = .ok (.iload_n 1, 1) := by decide +kernel
theorem dX9_rule_56 : decode cX9_rule 56 = .ok (.aaload, 1) := by decide +kernel
theorem dX9_rule_57 : decode cX9_rule 57 = .ok (.aload_n 0, 1) := by decide +kernel
theorem dX9_rule_58 : decode cX9_rule 58 = .ok (.getfield 30, 3) := by decide +kernel
theorem dX9_rule_61 : decode cX9_rule 61 = .ok (.invokevirtual 189, 3) := by decide +kernel
theorem dX9_rule_64 : decode cX9_rule 64 = .ok (.iload_n 2, 1) := by decide +kernel
theorem dX9_rule_65 : decode cX9_rule 65 = .ok (.ireturn, 1) := by decide +kernel
theorem dX9_fault_0 : decode cX9_fault 0 = .ok (.aload_n 0, 1) := by decide +kernel
theorem dX9_fault_1 : decode cX9_fault 1 = .ok (.getfield 19, 3) := by decide +kernel
theorem dX9_fault_4 : decode cX9_fault 4 = .ok (.getfield 193, 3) := by decide +kernel
theorem dX9_fault_7 : decode cX9_fault 7 = .ok (.ireturn, 1) := by decide +kernel
theorem dX9_says_0 : decode cX9_says 0 = .ok (.iload_n 1, 1) := by decide +kernel
theorem dX9_says_1 : decode cX9_says 1 = .ok (.invokestatic 172, 3) := by decide +kernel
theorem dX9_says_4 : decode cX9_says 4 = .ok (.ifCond .ne 7, 3) := by decide +kernel
theorem dX9_says_7 : decode cX9_says 7 = .ok (.sipush (-1001), 3) := by decide +kernel
theorem dX9_says_10 : decode cX9_says 10 = .ok (.ireturn, 1) := by decide +kernel
theorem dX9_says_11 : decode cX9_says 11 = .ok (.iload_n 2, 1) := by decide +kernel
theorem dX9_says_12 : decode cX9_says 12 = .ok (.iconst 0, 1) := by decide +kernel
theorem dX9_says_13 : decode cX9_says 13 = .ok (.bipush 7, 2) := by decide +kernel
theorem dX9_says_15 : decode cX9_says 15 = .ok (.invokestatic 66, 3) := by decide +kernel
theorem dX9_says_18 : decode cX9_says 18 = .ok (.ifCond .ne 7, 3) := by decide +kernel
theorem dX9_says_21 : decode cX9_says 21 = .ok (.sipush (-1002), 3) := by decide +kernel
theorem dX9_says_24 : decode cX9_says 24 = .ok (.ireturn, 1) := by decide +kernel
theorem dX9_says_25 : decode cX9_says 25 = .ok (.aload_n 0, 1) := by decide +kernel
theorem dX9_says_26 : decode cX9_says 26 = .ok (.getfield 25, 3) := by decide +kernel
theorem dX9_says_29 : decode cX9_says 29 = .ok (.iload_n 1, 1) := by decide +kernel
theorem dX9_says_30 : decode cX9_says 30 = .ok (.aaload, 1) := by decide +kernel
theorem dX9_says_31 : decode cX9_says 31 = .ok (.getfield 196, 3) := by decide +kernel
theorem dX9_says_34 : decode cX9_says 34 = .ok (.iload_n 2, 1) := by decide +kernel
theorem dX9_says_35 : decode cX9_says 35 = .ok (.iaload, 1) := by decide +kernel
theorem dX9_says_36 : decode cX9_says 36 = .ok (.ireturn, 1) := by decide +kernel
theorem dX9_score_0 : decode cX9_score 0 = .ok (.iload_n 1, 1) := by decide +kernel
theorem dX9_score_1 : decode cX9_score 1 = .ok (.invokestatic 172, 3) := by decide +kernel
theorem dX9_score_4 : decode cX9_score 4 = .ok (.ifCond .ne 7, 3) := by decide +kernel
theorem dX9_score_7 : decode cX9_score 7 = .ok (.sipush (-1001), 3) := by decide +kernel
theorem dX9_score_10 : decode cX9_score 10 = .ok (.ireturn, 1) := by decide +kernel
theorem dX9_score_11 : decode cX9_score 11 = .ok (.iload_n 2, 1) := by decide +kernel
theorem dX9_score_12 : decode cX9_score 12 = .ok (.iconst 0, 1) := by decide +kernel
theorem dX9_score_13 : decode cX9_score 13 = .ok (.iconst 5, 1) := by decide +kernel
theorem dX9_score_14 : decode cX9_score 14 = .ok (.invokestatic 66, 3) := by decide +kernel
theorem dX9_score_17 : decode cX9_score 17 = .ok (.ifCond .ne 7, 3) := by decide +kernel
theorem dX9_score_20 : decode cX9_score 20 = .ok (.sipush (-1002), 3) := by decide +kernel
theorem dX9_score_23 : decode cX9_score 23 = .ok (.ireturn, 1) := by decide +kernel
theorem dX9_score_24 : decode cX9_score 24 = .ok (.aload_n 0, 1) := by decide +kernel
theorem dX9_score_25 : decode cX9_score 25 = .ok (.getfield 37, 3) := by decide +kernel
theorem dX9_score_28 : decode cX9_score 28 = .ok (.aload_n 0, 1) := by decide +kernel
theorem dX9_score_29 : decode cX9_score 29 = .ok (.getfield 10, 3) := by decide +kernel
theorem dX9_score_32 : decode cX9_score 32 = .ok (.aload_n 0, 1) := by decide +kernel
theorem dX9_score_33 : decode cX9_score 33 = .ok (.getfield 25, 3) := by decide +kernel
theorem dX9_score_36 : decode cX9_score 36 = .ok (.iload_n 1, 1) := by decide +kernel
theorem dX9_score_37 : decode cX9_score 37 = .ok (.aaload, 1) := by decide +kernel
theorem dX9_score_38 : decode cX9_score 38 = .ok (.iconst (-1), 1) := by decide +kernel
theorem dX9_score_39 : decode cX9_score 39 = .ok (.invokevirtual 200, 3) := by decide +kernel
theorem dX9_score_42 : decode cX9_score 42 = .ok (.iload_n 2, 1) := by decide +kernel
theorem dX9_score_43 : decode cX9_score 43 = .ok (.tableswitch 77 0 4 #[33, 41, 51, 61, 69], 33) := by decide +kernel
theorem dX9_score_76 : decode cX9_score 76 = .ok (.aload_n 0, 1) := by decide +kernel
theorem dX9_score_77 : decode cX9_score 77 = .ok (.getfield 37, 3) := by decide +kernel
theorem dX9_score_80 : decode cX9_score 80 = .ok (.invokevirtual 204, 3) := by decide +kernel
theorem dX9_score_83 : decode cX9_score 83 = .ok (.ireturn, 1) := by decide +kernel
theorem dX9_score_84 : decode cX9_score 84 = .ok (.aload_n 0, 1) := by decide +kernel
theorem dX9_score_85 : decode cX9_score 85 = .ok (.getfield 37, 3) := by decide +kernel
theorem dX9_score_88 : decode cX9_score 88 = .ok (.getfield 207, 3) := by decide +kernel
theorem dX9_score_91 : decode cX9_score 91 = .ok (.iconst 0, 1) := by decide +kernel
theorem dX9_score_92 : decode cX9_score 92 = .ok (.iaload, 1) := by decide +kernel
theorem dX9_score_93 : decode cX9_score 93 = .ok (.ireturn, 1) := by decide +kernel
theorem dX9_score_94 : decode cX9_score 94 = .ok (.aload_n 0, 1) := by decide +kernel
theorem dX9_score_95 : decode cX9_score 95 = .ok (.getfield 37, 3) := by decide +kernel
theorem dX9_score_98 : decode cX9_score 98 = .ok (.getfield 207, 3) := by decide +kernel
theorem dX9_score_101 : decode cX9_score 101 = .ok (.iconst 1, 1) := by decide +kernel
theorem dX9_score_102 : decode cX9_score 102 = .ok (.iaload, 1) := by decide +kernel
theorem dX9_score_103 : decode cX9_score 103 = .ok (.ireturn, 1) := by decide +kernel
theorem dX9_score_104 : decode cX9_score 104 = .ok (.aload_n 0, 1) := by decide +kernel
theorem dX9_score_105 : decode cX9_score 105 = .ok (.getfield 37, 3) := by decide +kernel
theorem dX9_score_108 : decode cX9_score 108 = .ok (.getfield 210, 3) := by decide +kernel
theorem dX9_score_111 : decode cX9_score 111 = .ok (.ireturn, 1) := by decide +kernel
theorem dX9_score_112 : decode cX9_score 112 = .ok (.aload_n 0, 1) := by decide +kernel
theorem dX9_score_113 : decode cX9_score 113 = .ok (.getfield 37, 3) := by decide +kernel
theorem dX9_score_116 : decode cX9_score 116 = .ok (.getfield 213, 3) := by decide +kernel
theorem dX9_score_119 : decode cX9_score 119 = .ok (.ireturn, 1) := by decide +kernel
theorem dX9_score_120 : decode cX9_score 120 = .ok (.aload_n 0, 1) := by decide +kernel
theorem dX9_score_121 : decode cX9_score 121 = .ok (.getfield 37, 3) := by decide +kernel
theorem dX9_score_124 : decode cX9_score 124 = .ok (.getfield 216, 3) := by decide +kernel
theorem dX9_score_127 : decode cX9_score 127 = .ok (.ireturn, 1) := by decide +kernel
theorem dX9_measure_0 : decode cX9_measure 0 = .ok (.aload_n 0, 1) := by decide +kernel
theorem dX9_measure_1 : decode cX9_measure 1 = .ok (.getfield 10, 3) := by decide +kernel
theorem dX9_measure_4 : decode cX9_measure 4 = .ok (.iload_n 1, 1) := by decide +kernel
theorem dX9_measure_5 : decode cX9_measure 5 = .ok (.invokevirtual 84, 3) := by decide +kernel
theorem dX9_measure_8 : decode cX9_measure 8 = .ok (.astore 5, 2) := by decide +kernel
theorem dX9_measure_10 : decode cX9_measure 10 = .ok (.aload 5, 2) := by decide +kernel
theorem dX9_measure_12 : decode cX9_measure 12 = .ok (.ifnonnull 7, 3) := by decide +kernel
theorem dX9_measure_15 : decode cX9_measure 15 = .ok (.sipush (-1001), 3) := by decide +kernel
theorem dX9_measure_18 : decode cX9_measure 18 = .ok (.ireturn, 1) := by decide +kernel
theorem dX9_measure_19 : decode cX9_measure 19 = .ok (.iload_n 2, 1) := by decide +kernel
theorem dX9_measure_20 : decode cX9_measure 20 = .ok (.iconst 0, 1) := by decide +kernel
theorem dX9_measure_21 : decode cX9_measure 21 = .ok (.iconst 2, 1) := by decide +kernel
theorem dX9_measure_22 : decode cX9_measure 22 = .ok (.invokestatic 66, 3) := by decide +kernel
theorem dX9_measure_25 : decode cX9_measure 25 = .ok (.ifCond .eq 26, 3) := by decide +kernel
theorem dX9_measure_28 : decode cX9_measure 28 = .ok (.iload_n 3, 1) := by decide +kernel
theorem dX9_measure_29 : decode cX9_measure 29 = .ok (.iconst 0, 1) := by decide +kernel
theorem dX9_measure_30 : decode cX9_measure 30 = .ok (.sipush 9999, 3) := by decide +kernel
theorem dX9_measure_33 : decode cX9_measure 33 = .ok (.invokestatic 66, 3) := by decide +kernel
theorem dX9_measure_36 : decode cX9_measure 36 = .ok (.ifCond .eq 15, 3) := by decide +kernel
theorem dX9_measure_39 : decode cX9_measure 39 = .ok (.iload 4, 2) := by decide +kernel
theorem dX9_measure_41 : decode cX9_measure 41 = .ok (.iload_n 3, 1) := by decide +kernel
theorem dX9_measure_42 : decode cX9_measure 42 = .ok (.sipush 9999, 3) := by decide +kernel
theorem dX9_measure_45 : decode cX9_measure 45 = .ok (.invokestatic 66, 3) := by decide +kernel
theorem dX9_measure_48 : decode cX9_measure 48 = .ok (.ifCond .ne 7, 3) := by decide +kernel
theorem dX9_measure_51 : decode cX9_measure 51 = .ok (.sipush (-1002), 3) := by decide +kernel
theorem dX9_measure_54 : decode cX9_measure 54 = .ok (.ireturn, 1) := by decide +kernel
theorem dX9_measure_55 : decode cX9_measure 55 = .ok (.aload 5, 2) := by decide +kernel
theorem dX9_measure_57 : decode cX9_measure 57 = .ok (.invokevirtual 109, 3) := by decide +kernel
theorem dX9_measure_60 : decode cX9_measure 60 = .ok (.ifCond .ne 11, 3) := by decide +kernel
theorem dX9_measure_63 : decode cX9_measure 63 = .ok (.aload 5, 2) := by decide +kernel
theorem dX9_measure_65 : decode cX9_measure 65 = .ok (.getfield 88, 3) := by decide +kernel
theorem dX9_measure_68 : decode cX9_measure 68 = .ok (.ifCond .eq 7, 3) := by decide +kernel
theorem dX9_measure_71 : decode cX9_measure 71 = .ok (.sipush (-1003), 3) := by decide +kernel
theorem dX9_measure_74 : decode cX9_measure 74 = .ok (.ireturn, 1) := by decide +kernel
theorem dX9_measure_75 : decode cX9_measure 75 = .ok (.aload 5, 2) := by decide +kernel
theorem dX9_measure_77 : decode cX9_measure 77 = .ok (.getfield 219, 3) := by decide +kernel
theorem dX9_measure_80 : decode cX9_measure 80 = .ok (.iload_n 2, 1) := by decide +kernel
theorem dX9_measure_81 : decode cX9_measure 81 = .ok (.iload_n 3, 1) := by decide +kernel
theorem dX9_measure_82 : decode cX9_measure 82 = .ok (.iastore, 1) := by decide +kernel
theorem dX9_measure_83 : decode cX9_measure 83 = .ok (.aload 5, 2) := by decide +kernel
theorem dX9_measure_85 : decode cX9_measure 85 = .ok (.getfield 222, 3) := by decide +kernel
theorem dX9_measure_88 : decode cX9_measure 88 = .ok (.iload_n 2, 1) := by decide +kernel
theorem dX9_measure_89 : decode cX9_measure 89 = .ok (.iload 4, 2) := by decide +kernel
theorem dX9_measure_91 : decode cX9_measure 91 = .ok (.iastore, 1) := by decide +kernel
theorem dX9_measure_92 : decode cX9_measure 92 = .ok (.aload 5, 2) := by decide +kernel
theorem dX9_measure_94 : decode cX9_measure 94 = .ok (.invokevirtual 225, 3) := by decide +kernel
theorem dX9_measure_97 : decode cX9_measure 97 = .ok (.ireturn, 1) := by decide +kernel
theorem dX9_known_0 : decode cX9_known 0 = .ok (.aload_n 0, 1) := by decide +kernel
theorem dX9_known_1 : decode cX9_known 1 = .ok (.getfield 10, 3) := by decide +kernel
theorem dX9_known_4 : decode cX9_known 4 = .ok (.iload_n 1, 1) := by decide +kernel
theorem dX9_known_5 : decode cX9_known 5 = .ok (.invokevirtual 84, 3) := by decide +kernel
theorem dX9_known_8 : decode cX9_known 8 = .ok (.astore_n 3, 1) := by decide +kernel
theorem dX9_known_9 : decode cX9_known 9 = .ok (.aload_n 3, 1) := by decide +kernel
theorem dX9_known_10 : decode cX9_known 10 = .ok (.ifnonnull 7, 3) := by decide +kernel
theorem dX9_known_13 : decode cX9_known 13 = .ok (.sipush (-1001), 3) := by decide +kernel
theorem dX9_known_16 : decode cX9_known 16 = .ok (.ireturn, 1) := by decide +kernel
theorem dX9_known_17 : decode cX9_known 17 = .ok (.iload_n 2, 1) := by decide +kernel
theorem dX9_known_18 : decode cX9_known 18 = .ok (.iconst 0, 1) := by decide +kernel
theorem dX9_known_19 : decode cX9_known 19 = .ok (.iconst 1, 1) := by decide +kernel
theorem dX9_known_20 : decode cX9_known 20 = .ok (.invokestatic 66, 3) := by decide +kernel
theorem dX9_known_23 : decode cX9_known 23 = .ok (.ifCond .ne 7, 3) := by decide +kernel
theorem dX9_known_26 : decode cX9_known 26 = .ok (.sipush (-1002), 3) := by decide +kernel
theorem dX9_known_29 : decode cX9_known 29 = .ok (.ireturn, 1) := by decide +kernel
theorem dX9_known_30 : decode cX9_known 30 = .ok (.aload_n 3, 1) := by decide +kernel
theorem dX9_known_31 : decode cX9_known 31 = .ok (.invokevirtual 225, 3) := by decide +kernel
theorem dX9_known_34 : decode cX9_known 34 = .ok (.ifCond .eq 10, 3) := by decide +kernel
theorem dX9_known_37 : decode cX9_known 37 = .ok (.aload_n 3, 1) := by decide +kernel
theorem dX9_known_38 : decode cX9_known 38 = .ok (.invokevirtual 228, 3) := by decide +kernel
theorem dX9_known_41 : decode cX9_known 41 = .ok (.ifCond .eq 5, 3) := by decide +kernel
theorem dX9_known_44 : decode cX9_known 44 = .ok (.iconst (-1), 1) := by decide +kernel
theorem dX9_known_45 : decode cX9_known 45 = .ok (.ireturn, 1) := by decide +kernel
theorem dX9_known_46 : decode cX9_known 46 = .ok (.iload_n 2, 1) := by decide +kernel
theorem dX9_known_47 : decode cX9_known 47 = .ok (.ifCond .ne 10, 3) := by decide +kernel
theorem dX9_known_50 : decode cX9_known 50 = .ok (.aload_n 3, 1) := by decide +kernel
theorem dX9_known_51 : decode cX9_known 51 = .ok (.invokevirtual 231, 3) := by decide +kernel
theorem dX9_known_54 : decode cX9_known 54 = .ok (.goto 7, 3) := by decide +kernel
theorem dX9_known_57 : decode cX9_known 57 = .ok (.aload_n 3, 1) := by decide +kernel
theorem dX9_known_58 : decode cX9_known 58 = .ok (.invokevirtual 234, 3) := by decide +kernel
theorem dX9_known_61 : decode cX9_known 61 = .ok (.ireturn, 1) := by decide +kernel
theorem dX9_sure_0 : decode cX9_sure 0 = .ok (.iload_n 1, 1) := by decide +kernel
theorem dX9_sure_1 : decode cX9_sure 1 = .ok (.invokestatic 172, 3) := by decide +kernel
theorem dX9_sure_4 : decode cX9_sure 4 = .ok (.ifCond .ne 7, 3) := by decide +kernel
theorem dX9_sure_7 : decode cX9_sure 7 = .ok (.sipush (-1001), 3) := by decide +kernel
theorem dX9_sure_10 : decode cX9_sure 10 = .ok (.ireturn, 1) := by decide +kernel
theorem dX9_sure_11 : decode cX9_sure 11 = .ok (.iload_n 2, 1) := by decide +kernel
theorem dX9_sure_12 : decode cX9_sure 12 = .ok (.iconst 0, 1) := by decide +kernel
theorem dX9_sure_13 : decode cX9_sure 13 = .ok (.iconst 2, 1) := by decide +kernel
theorem dX9_sure_14 : decode cX9_sure 14 = .ok (.invokestatic 66, 3) := by decide +kernel
theorem dX9_sure_17 : decode cX9_sure 17 = .ok (.ifCond .ne 7, 3) := by decide +kernel
theorem dX9_sure_20 : decode cX9_sure 20 = .ok (.sipush (-1002), 3) := by decide +kernel
theorem dX9_sure_23 : decode cX9_sure 23 = .ok (.ireturn, 1) := by decide +kernel
theorem dX9_sure_24 : decode cX9_sure 24 = .ok (.aload_n 0, 1) := by decide +kernel
theorem dX9_sure_25 : decode cX9_sure 25 = .ok (.getfield 37, 3) := by decide +kernel
theorem dX9_sure_28 : decode cX9_sure 28 = .ok (.aload_n 0, 1) := by decide +kernel
theorem dX9_sure_29 : decode cX9_sure 29 = .ok (.getfield 10, 3) := by decide +kernel
theorem dX9_sure_32 : decode cX9_sure 32 = .ok (.aload_n 0, 1) := by decide +kernel
theorem dX9_sure_33 : decode cX9_sure 33 = .ok (.getfield 25, 3) := by decide +kernel
theorem dX9_sure_36 : decode cX9_sure 36 = .ok (.iload_n 1, 1) := by decide +kernel
theorem dX9_sure_37 : decode cX9_sure 37 = .ok (.aaload, 1) := by decide +kernel
theorem dX9_sure_38 : decode cX9_sure 38 = .ok (.invokevirtual 237, 3) := by decide +kernel
theorem dX9_sure_41 : decode cX9_sure 41 = .ok (.ifCond .eq 7, 3) := by decide +kernel
theorem dX9_sure_44 : decode cX9_sure 44 = .ok (.sipush (-1003), 3) := by decide +kernel
theorem dX9_sure_47 : decode cX9_sure 47 = .ok (.ireturn, 1) := by decide +kernel
theorem dX9_sure_48 : decode cX9_sure 48 = .ok (.aload_n 0, 1) := by decide +kernel
theorem dX9_sure_49 : decode cX9_sure 49 = .ok (.getfield 37, 3) := by decide +kernel
theorem dX9_sure_52 : decode cX9_sure 52 = .ok (.aload_n 0, 1) := by decide +kernel
theorem dX9_sure_53 : decode cX9_sure 53 = .ok (.getfield 10, 3) := by decide +kernel
theorem dX9_sure_56 : decode cX9_sure 56 = .ok (.aload_n 0, 1) := by decide +kernel
theorem dX9_sure_57 : decode cX9_sure 57 = .ok (.getfield 25, 3) := by decide +kernel
theorem dX9_sure_60 : decode cX9_sure 60 = .ok (.iload_n 1, 1) := by decide +kernel
theorem dX9_sure_61 : decode cX9_sure 61 = .ok (.aaload, 1) := by decide +kernel
theorem dX9_sure_62 : decode cX9_sure 62 = .ok (.iconst 1, 1) := by decide +kernel
theorem dX9_sure_63 : decode cX9_sure 63 = .ok (.invokevirtual 200, 3) := by decide +kernel
theorem dX9_sure_66 : decode cX9_sure 66 = .ok (.aload_n 0, 1) := by decide +kernel
theorem dX9_sure_67 : decode cX9_sure 67 = .ok (.getfield 37, 3) := by decide +kernel
theorem dX9_sure_70 : decode cX9_sure 70 = .ok (.invokevirtual 204, 3) := by decide +kernel
theorem dX9_sure_73 : decode cX9_sure 73 = .ok (.istore_n 3, 1) := by decide +kernel
theorem dX9_sure_74 : decode cX9_sure 74 = .ok (.aload_n 0, 1) := by decide +kernel
theorem dX9_sure_75 : decode cX9_sure 75 = .ok (.getfield 37, 3) := by decide +kernel
theorem dX9_sure_78 : decode cX9_sure 78 = .ok (.aload_n 0, 1) := by decide +kernel
theorem dX9_sure_79 : decode cX9_sure 79 = .ok (.getfield 10, 3) := by decide +kernel
theorem dX9_sure_82 : decode cX9_sure 82 = .ok (.aload_n 0, 1) := by decide +kernel
theorem dX9_sure_83 : decode cX9_sure 83 = .ok (.getfield 25, 3) := by decide +kernel
theorem dX9_sure_86 : decode cX9_sure 86 = .ok (.iload_n 1, 1) := by decide +kernel
theorem dX9_sure_87 : decode cX9_sure 87 = .ok (.aaload, 1) := by decide +kernel
theorem dX9_sure_88 : decode cX9_sure 88 = .ok (.iconst 0, 1) := by decide +kernel
theorem dX9_sure_89 : decode cX9_sure 89 = .ok (.invokevirtual 200, 3) := by decide +kernel
theorem dX9_sure_92 : decode cX9_sure 92 = .ok (.aload_n 0, 1) := by decide +kernel
theorem dX9_sure_93 : decode cX9_sure 93 = .ok (.getfield 37, 3) := by decide +kernel
theorem dX9_sure_96 : decode cX9_sure 96 = .ok (.invokevirtual 204, 3) := by decide +kernel
theorem dX9_sure_99 : decode cX9_sure 99 = .ok (.istore 4, 2) := by decide +kernel
theorem dX9_sure_101 : decode cX9_sure 101 = .ok (.iload_n 2, 1) := by decide +kernel
theorem dX9_sure_102 : decode cX9_sure 102 = .ok (.lookupswitch 31 #[(0, 26), (1, 28)], 26) := by decide +kernel
theorem dX9_sure_128 : decode cX9_sure 128 = .ok (.iload_n 3, 1) := by decide +kernel
theorem dX9_sure_129 : decode cX9_sure 129 = .ok (.ireturn, 1) := by decide +kernel
theorem dX9_sure_130 : decode cX9_sure 130 = .ok (.iload 4, 2) := by decide +kernel
theorem dX9_sure_132 : decode cX9_sure 132 = .ok (.ireturn, 1) := by decide +kernel
theorem dX9_sure_133 : decode cX9_sure 133 = .ok (.iload_n 3, 1) := by decide +kernel
theorem dX9_sure_134 : decode cX9_sure 134 = .ok (.iload 4, 2) := by decide +kernel
theorem dX9_sure_136 : decode cX9_sure 136 = .ok (.if_icmp .ne 7, 3) := by decide +kernel
theorem dX9_sure_139 : decode cX9_sure 139 = .ok (.iconst 1, 1) := by decide +kernel
theorem dX9_sure_140 : decode cX9_sure 140 = .ok (.goto 4, 3) := by decide +kernel
theorem dX9_sure_143 : decode cX9_sure 143 = .ok (.iconst 0, 1) := by decide +kernel
theorem dX9_sure_144 : decode cX9_sure 144 = .ok (.invokestatic 113, 3) := by decide +kernel
theorem dX9_sure_147 : decode cX9_sure 147 = .ok (.ireturn, 1) := by decide +kernel
theorem dX9_act_0 : decode cX9_act 0 = .ok (.iload_n 1, 1) := by decide +kernel
theorem dX9_act_1 : decode cX9_act 1 = .ok (.iconst 0, 1) := by decide +kernel
theorem dX9_act_2 : decode cX9_act 2 = .ok (.iconst 1, 1) := by decide +kernel
theorem dX9_act_3 : decode cX9_act 3 = .ok (.invokestatic 66, 3) := by decide +kernel
theorem dX9_act_6 : decode cX9_act 6 = .ok (.ifCond .eq 12, 3) := by decide +kernel
theorem dX9_act_9 : decode cX9_act 9 = .ok (.iload_n 2, 1) := by decide +kernel
theorem dX9_act_10 : decode cX9_act 10 = .ok (.iconst 0, 1) := by decide +kernel
theorem dX9_act_11 : decode cX9_act 11 = .ok (.iconst 2, 1) := by decide +kernel
theorem dX9_act_12 : decode cX9_act 12 = .ok (.invokestatic 66, 3) := by decide +kernel
theorem dX9_act_15 : decode cX9_act 15 = .ok (.ifCond .ne 7, 3) := by decide +kernel
theorem dX9_act_18 : decode cX9_act 18 = .ok (.sipush (-1002), 3) := by decide +kernel
theorem dX9_act_21 : decode cX9_act 21 = .ok (.ireturn, 1) := by decide +kernel
theorem dX9_act_22 : decode cX9_act 22 = .ok (.iload_n 3, 1) := by decide +kernel
theorem dX9_act_23 : decode cX9_act 23 = .ok (.invokestatic 241, 3) := by decide +kernel
theorem dX9_act_26 : decode cX9_act 26 = .ok (.ifCond .eq 35, 3) := by decide +kernel
theorem dX9_act_29 : decode cX9_act 29 = .ok (.iload 4, 2) := by decide +kernel
theorem dX9_act_31 : decode cX9_act 31 = .ok (.invokestatic 241, 3) := by decide +kernel
theorem dX9_act_34 : decode cX9_act 34 = .ok (.ifCond .eq 27, 3) := by decide +kernel
theorem dX9_act_37 : decode cX9_act 37 = .ok (.iload 5, 2) := by decide +kernel
theorem dX9_act_39 : decode cX9_act 39 = .ok (.invokestatic 241, 3) := by decide +kernel
theorem dX9_act_42 : decode cX9_act 42 = .ok (.ifCond .eq 19, 3) := by decide +kernel
theorem dX9_act_45 : decode cX9_act 45 = .ok (.iload 6, 2) := by decide +kernel
theorem dX9_act_47 : decode cX9_act 47 = .ok (.invokestatic 241, 3) := by decide +kernel
theorem dX9_act_50 : decode cX9_act 50 = .ok (.ifCond .eq 11, 3) := by decide +kernel
theorem dX9_act_53 : decode cX9_act 53 = .ok (.iload 7, 2) := by decide +kernel
theorem dX9_act_55 : decode cX9_act 55 = .ok (.invokestatic 241, 3) := by decide +kernel
theorem dX9_act_58 : decode cX9_act 58 = .ok (.ifCond .ne 7, 3) := by decide +kernel
theorem dX9_act_61 : decode cX9_act 61 = .ok (.sipush (-1002), 3) := by decide +kernel
theorem dX9_act_64 : decode cX9_act 64 = .ok (.ireturn, 1) := by decide +kernel
theorem dX9_act_65 : decode cX9_act 65 = .ok (.iload_n 3, 1) := by decide +kernel
theorem dX9_act_66 : decode cX9_act 66 = .ok (.iload 4, 2) := by decide +kernel
theorem dX9_act_68 : decode cX9_act 68 = .ok (.iadd, 1) := by decide +kernel
theorem dX9_act_69 : decode cX9_act 69 = .ok (.iload 5, 2) := by decide +kernel
theorem dX9_act_71 : decode cX9_act 71 = .ok (.iadd, 1) := by decide +kernel
theorem dX9_act_72 : decode cX9_act 72 = .ok (.iload 6, 2) := by decide +kernel
theorem dX9_act_74 : decode cX9_act 74 = .ok (.iadd, 1) := by decide +kernel
theorem dX9_act_75 : decode cX9_act 75 = .ok (.iload 7, 2) := by decide +kernel
theorem dX9_act_77 : decode cX9_act 77 = .ok (.iadd, 1) := by decide +kernel
theorem dX9_act_78 : decode cX9_act 78 = .ok (.bipush 60, 2) := by decide +kernel
theorem dX9_act_80 : decode cX9_act 80 = .ok (.if_icmp .eq 7, 3) := by decide +kernel
theorem dX9_act_83 : decode cX9_act 83 = .ok (.sipush (-1002), 3) := by decide +kernel
theorem dX9_act_86 : decode cX9_act 86 = .ok (.ireturn, 1) := by decide +kernel
theorem dX9_act_87 : decode cX9_act 87 = .ok (.iload_n 1, 1) := by decide +kernel
theorem dX9_act_88 : decode cX9_act 88 = .ok (.iload_n 2, 1) := by decide +kernel
theorem dX9_act_89 : decode cX9_act 89 = .ok (.invokestatic 244, 3) := by decide +kernel
theorem dX9_act_92 : decode cX9_act 92 = .ok (.istore 8, 2) := by decide +kernel
theorem dX9_act_94 : decode cX9_act 94 = .ok (.aload_n 0, 1) := by decide +kernel
theorem dX9_act_95 : decode cX9_act 95 = .ok (.getfield 44, 3) := by decide +kernel
theorem dX9_act_98 : decode cX9_act 98 = .ok (.getfield 248, 3) := by decide +kernel
theorem dX9_act_101 : decode cX9_act 101 = .ok (.iload 8, 2) := by decide +kernel
theorem dX9_act_103 : decode cX9_act 103 = .ok (.iload_n 3, 1) := by decide +kernel
theorem dX9_act_104 : decode cX9_act 104 = .ok (.iastore, 1) := by decide +kernel
theorem dX9_act_105 : decode cX9_act 105 = .ok (.aload_n 0, 1) := by decide +kernel
theorem dX9_act_106 : decode cX9_act 106 = .ok (.getfield 44, 3) := by decide +kernel
theorem dX9_act_109 : decode cX9_act 109 = .ok (.getfield 248, 3) := by decide +kernel
theorem dX9_act_112 : decode cX9_act 112 = .ok (.iload 8, 2) := by decide +kernel
theorem dX9_act_114 : decode cX9_act 114 = .ok (.iconst 1, 1) := by decide +kernel
theorem dX9_act_115 : decode cX9_act 115 = .ok (.iadd, 1) := by decide +kernel
theorem dX9_act_116 : decode cX9_act 116 = .ok (.iload 4, 2) := by decide +kernel
theorem dX9_act_118 : decode cX9_act 118 = .ok (.iastore, 1) := by decide +kernel
theorem dX9_act_119 : decode cX9_act 119 = .ok (.aload_n 0, 1) := by decide +kernel
theorem dX9_act_120 : decode cX9_act 120 = .ok (.getfield 44, 3) := by decide +kernel
theorem dX9_act_123 : decode cX9_act 123 = .ok (.getfield 248, 3) := by decide +kernel
theorem dX9_act_126 : decode cX9_act 126 = .ok (.iload 8, 2) := by decide +kernel
theorem dX9_act_128 : decode cX9_act 128 = .ok (.iconst 2, 1) := by decide +kernel
theorem dX9_act_129 : decode cX9_act 129 = .ok (.iadd, 1) := by decide +kernel
theorem dX9_act_130 : decode cX9_act 130 = .ok (.iload 5, 2) := by decide +kernel
theorem dX9_act_132 : decode cX9_act 132 = .ok (.iastore, 1) := by decide +kernel
theorem dX9_act_133 : decode cX9_act 133 = .ok (.aload_n 0, 1) := by decide +kernel
theorem dX9_act_134 : decode cX9_act 134 = .ok (.getfield 44, 3) := by decide +kernel
theorem dX9_act_137 : decode cX9_act 137 = .ok (.getfield 248, 3) := by decide +kernel
theorem dX9_act_140 : decode cX9_act 140 = .ok (.iload 8, 2) := by decide +kernel
theorem dX9_act_142 : decode cX9_act 142 = .ok (.iconst 3, 1) := by decide +kernel
theorem dX9_act_143 : decode cX9_act 143 = .ok (.iadd, 1) := by decide +kernel
theorem dX9_act_144 : decode cX9_act 144 = .ok (.iload 6, 2) := by decide +kernel
theorem dX9_act_146 : decode cX9_act 146 = .ok (.iastore, 1) := by decide +kernel
theorem dX9_act_147 : decode cX9_act 147 = .ok (.aload_n 0, 1) := by decide +kernel
theorem dX9_act_148 : decode cX9_act 148 = .ok (.getfield 44, 3) := by decide +kernel
theorem dX9_act_151 : decode cX9_act 151 = .ok (.getfield 248, 3) := by decide +kernel
theorem dX9_act_154 : decode cX9_act 154 = .ok (.iload 8, 2) := by decide +kernel
theorem dX9_act_156 : decode cX9_act 156 = .ok (.iconst 4, 1) := by decide +kernel
theorem dX9_act_157 : decode cX9_act 157 = .ok (.iadd, 1) := by decide +kernel
theorem dX9_act_158 : decode cX9_act 158 = .ok (.iload 7, 2) := by decide +kernel
theorem dX9_act_160 : decode cX9_act 160 = .ok (.iastore, 1) := by decide +kernel
theorem dX9_act_161 : decode cX9_act 161 = .ok (.iconst 1, 1) := by decide +kernel
theorem dX9_act_162 : decode cX9_act 162 = .ok (.ireturn, 1) := by decide +kernel
theorem dX9_win_0 : decode cX9_win 0 = .ok (.iload_n 1, 1) := by decide +kernel
theorem dX9_win_1 : decode cX9_win 1 = .ok (.iconst 0, 1) := by decide +kernel
theorem dX9_win_2 : decode cX9_win 2 = .ok (.bipush 6, 2) := by decide +kernel
theorem dX9_win_4 : decode cX9_win 4 = .ok (.invokestatic 66, 3) := by decide +kernel
theorem dX9_win_7 : decode cX9_win 7 = .ok (.ifCond .eq 22, 3) := by decide +kernel
theorem dX9_win_10 : decode cX9_win 10 = .ok (.iload_n 2, 1) := by decide +kernel
theorem dX9_win_11 : decode cX9_win 11 = .ok (.iconst 0, 1) := by decide +kernel
theorem dX9_win_12 : decode cX9_win 12 = .ok (.iconst 1, 1) := by decide +kernel
theorem dX9_win_13 : decode cX9_win 13 = .ok (.invokestatic 66, 3) := by decide +kernel
theorem dX9_win_16 : decode cX9_win 16 = .ok (.ifCond .eq 13, 3) := by decide +kernel
theorem dX9_win_19 : decode cX9_win 19 = .ok (.iload 5, 2) := by decide +kernel
theorem dX9_win_21 : decode cX9_win 21 = .ok (.iconst 0, 1) := by decide +kernel
theorem dX9_win_22 : decode cX9_win 22 = .ok (.iconst 2, 1) := by decide +kernel
theorem dX9_win_23 : decode cX9_win 23 = .ok (.invokestatic 66, 3) := by decide +kernel
theorem dX9_win_26 : decode cX9_win 26 = .ok (.ifCond .ne 7, 3) := by decide +kernel
theorem dX9_win_29 : decode cX9_win 29 = .ok (.ldc2_w 251, 3) := by decide +kernel
theorem dX9_win_32 : decode cX9_win 32 = .ok (.lreturn, 1) := by decide +kernel
theorem dX9_win_33 : decode cX9_win 33 = .ok (.iload_n 3, 1) := by decide +kernel
theorem dX9_win_34 : decode cX9_win 34 = .ok (.invokestatic 253, 3) := by decide +kernel
theorem dX9_win_37 : decode cX9_win 37 = .ok (.ifCond .eq 11, 3) := by decide +kernel
theorem dX9_win_40 : decode cX9_win 40 = .ok (.iload 4, 2) := by decide +kernel
theorem dX9_win_42 : decode cX9_win 42 = .ok (.invokestatic 253, 3) := by decide +kernel
theorem dX9_win_45 : decode cX9_win 45 = .ok (.ifCond .ne 7, 3) := by decide +kernel
theorem dX9_win_48 : decode cX9_win 48 = .ok (.ldc2_w 251, 3) := by decide +kernel
theorem dX9_win_51 : decode cX9_win 51 = .ok (.lreturn, 1) := by decide +kernel
theorem dX9_win_52 : decode cX9_win 52 = .ok (.aload_n 0, 1) := by decide +kernel
theorem dX9_win_53 : decode cX9_win 53 = .ok (.getfield 44, 3) := by decide +kernel
theorem dX9_win_56 : decode cX9_win 56 = .ok (.iload_n 1, 1) := by decide +kernel
theorem dX9_win_57 : decode cX9_win 57 = .ok (.iload_n 2, 1) := by decide +kernel
theorem dX9_win_58 : decode cX9_win 58 = .ok (.iload 4, 2) := by decide +kernel
theorem dX9_win_60 : decode cX9_win 60 = .ok (.invokevirtual 256, 3) := by decide +kernel
theorem dX9_win_63 : decode cX9_win 63 = .ok (.iload 5, 2) := by decide +kernel
theorem dX9_win_65 : decode cX9_win 65 = .ok (.iconst 2, 1) := by decide +kernel
theorem dX9_win_66 : decode cX9_win 66 = .ok (.if_icmp .ne 23, 3) := by decide +kernel
theorem dX9_win_69 : decode cX9_win 69 = .ok (.iload_n 1, 1) := by decide +kernel
theorem dX9_win_70 : decode cX9_win 70 = .ok (.ifCond .ne 9, 3) := by decide +kernel
theorem dX9_win_73 : decode cX9_win 73 = .ok (.ldc2_w 259, 3) := by decide +kernel
theorem dX9_win_76 : decode cX9_win 76 = .ok (.goto 12, 3) := by decide +kernel
theorem dX9_win_79 : decode cX9_win 79 = .ok (.aload_n 0, 1) := by decide +kernel
theorem dX9_win_80 : decode cX9_win 80 = .ok (.getfield 44, 3) := by decide +kernel
theorem dX9_win_83 : decode cX9_win 83 = .ok (.iload_n 3, 1) := by decide +kernel
theorem dX9_win_84 : decode cX9_win 84 = .ok (.invokevirtual 261, 3) := by decide +kernel
theorem dX9_win_87 : decode cX9_win 87 = .ok (.i2l, 1) := by decide +kernel
theorem dX9_win_88 : decode cX9_win 88 = .ok (.lreturn, 1) := by decide +kernel
theorem dX9_win_89 : decode cX9_win 89 = .ok (.aload_n 0, 1) := by decide +kernel
theorem dX9_win_90 : decode cX9_win 90 = .ok (.getfield 44, 3) := by decide +kernel
theorem dX9_win_93 : decode cX9_win 93 = .ok (.iload_n 3, 1) := by decide +kernel
theorem dX9_win_94 : decode cX9_win 94 = .ok (.invokevirtual 264, 3) := by decide +kernel
theorem dX9_win_97 : decode cX9_win 97 = .ok (.lstore 6, 2) := by decide +kernel
theorem dX9_win_99 : decode cX9_win 99 = .ok (.aload_n 0, 1) := by decide +kernel
theorem dX9_win_100 : decode cX9_win 100 = .ok (.getfield 44, 3) := by decide +kernel
theorem dX9_win_103 : decode cX9_win 103 = .ok (.getfield 267, 3) := by decide +kernel
theorem dX9_win_106 : decode cX9_win 106 = .ok (.lstore 8, 2) := by decide +kernel
theorem dX9_win_108 : decode cX9_win 108 = .ok (.lconst 1, 1) := by decide +kernel
theorem dX9_win_109 : decode cX9_win 109 = .ok (.lload 6, 2) := by decide +kernel
theorem dX9_win_111 : decode cX9_win 111 = .ok (.lload 8, 2) := by decide +kernel
theorem dX9_win_113 : decode cX9_win 113 = .ok (.invokestatic 271, 3) := by decide +kernel
theorem dX9_win_116 : decode cX9_win 116 = .ok (.invokestatic 275, 3) := by decide +kernel
theorem dX9_win_119 : decode cX9_win 119 = .ok (.lstore 10, 2) := by decide +kernel
theorem dX9_win_121 : decode cX9_win 121 = .ok (.iload 5, 2) := by decide +kernel
theorem dX9_win_123 : decode cX9_win 123 = .ok (.ifCond .ne 11, 3) := by decide +kernel
theorem dX9_win_126 : decode cX9_win 126 = .ok (.lload 6, 2) := by decide +kernel
theorem dX9_win_128 : decode cX9_win 128 = .ok (.lload 10, 2) := by decide +kernel
theorem dX9_win_130 : decode cX9_win 130 = .ok (.ldiv, 1) := by decide +kernel
theorem dX9_win_131 : decode cX9_win 131 = .ok (.goto 8, 3) := by decide +kernel
theorem dX9_win_134 : decode cX9_win 134 = .ok (.lload 8, 2) := by decide +kernel
theorem dX9_win_136 : decode cX9_win 136 = .ok (.lload 10, 2) := by decide +kernel
theorem dX9_win_138 : decode cX9_win 138 = .ok (.ldiv, 1) := by decide +kernel
theorem dX9_win_139 : decode cX9_win 139 = .ok (.lreturn, 1) := by decide +kernel
theorem dX9_match_0 : decode cX9_match 0 = .ok (.iload_n 1, 1) := by decide +kernel
theorem dX9_match_1 : decode cX9_match 1 = .ok (.invokestatic 172, 3) := by decide +kernel
theorem dX9_match_4 : decode cX9_match 4 = .ok (.ifCond .eq 10, 3) := by decide +kernel
theorem dX9_match_7 : decode cX9_match 7 = .ok (.iload_n 2, 1) := by decide +kernel
theorem dX9_match_8 : decode cX9_match 8 = .ok (.invokestatic 172, 3) := by decide +kernel
theorem dX9_match_11 : decode cX9_match 11 = .ok (.ifCond .ne 7, 3) := by decide +kernel
theorem dX9_match_14 : decode cX9_match 14 = .ok (.sipush (-1001), 3) := by decide +kernel
theorem dX9_match_17 : decode cX9_match 17 = .ok (.ireturn, 1) := by decide +kernel
theorem dX9_match_18 : decode cX9_match 18 = .ok (.iload_n 3, 1) := by decide +kernel
theorem dX9_match_19 : decode cX9_match 19 = .ok (.iconst 0, 1) := by decide +kernel
theorem dX9_match_20 : decode cX9_match 20 = .ok (.iconst 2, 1) := by decide +kernel
theorem dX9_match_21 : decode cX9_match 21 = .ok (.invokestatic 66, 3) := by decide +kernel
theorem dX9_match_24 : decode cX9_match 24 = .ok (.ifCond .eq 8, 3) := by decide +kernel
theorem dX9_match_27 : decode cX9_match 27 = .ok (.iload_n 1, 1) := by decide +kernel
theorem dX9_match_28 : decode cX9_match 28 = .ok (.iload_n 2, 1) := by decide +kernel
theorem dX9_match_29 : decode cX9_match 29 = .ok (.if_icmp .ne 7, 3) := by decide +kernel
theorem dX9_match_32 : decode cX9_match 32 = .ok (.sipush (-1002), 3) := by decide +kernel
theorem dX9_match_35 : decode cX9_match 35 = .ok (.ireturn, 1) := by decide +kernel
theorem dX9_match_36 : decode cX9_match 36 = .ok (.aload_n 0, 1) := by decide +kernel
theorem dX9_match_37 : decode cX9_match 37 = .ok (.getfield 51, 3) := by decide +kernel
theorem dX9_match_40 : decode cX9_match 40 = .ok (.getfield 149, 3) := by decide +kernel
theorem dX9_match_43 : decode cX9_match 43 = .ok (.bipush 24, 2) := by decide +kernel
theorem dX9_match_45 : decode cX9_match 45 = .ok (.if_icmp .lt 7, 3) := by decide +kernel
theorem dX9_match_48 : decode cX9_match 48 = .ok (.sipush (-1004), 3) := by decide +kernel
theorem dX9_match_51 : decode cX9_match 51 = .ok (.ireturn, 1) := by decide +kernel
theorem dX9_match_52 : decode cX9_match 52 = .ok (.aload_n 0, 1) := by decide +kernel
theorem dX9_match_53 : decode cX9_match 53 = .ok (.getfield 51, 3) := by decide +kernel
theorem dX9_match_56 : decode cX9_match 56 = .ok (.new 280, 3) := by decide +kernel
theorem dX9_match_59 : decode cX9_match 59 = .ok (.dup, 1) := by decide +kernel
theorem dX9_match_60 : decode cX9_match 60 = .ok (.iload_n 1, 1) := by decide +kernel
theorem dX9_match_61 : decode cX9_match 61 = .ok (.iload_n 2, 1) := by decide +kernel
theorem dX9_match_62 : decode cX9_match 62 = .ok (.iload_n 3, 1) := by decide +kernel
theorem dX9_match_63 : decode cX9_match 63 = .ok (.invokespecial 282, 3) := by decide +kernel
theorem dX9_match_66 : decode cX9_match 66 = .ok (.invokevirtual 284, 3) := by decide +kernel
theorem dX9_match_69 : decode cX9_match 69 = .ok (.ireturn, 1) := by decide +kernel
theorem dX9_end_0 : decode cX9_end 0 = .ok (.aload_n 0, 1) := by decide +kernel
theorem dX9_end_1 : decode cX9_end 1 = .ok (.getfield 51, 3) := by decide +kernel
theorem dX9_end_4 : decode cX9_end 4 = .ok (.iload_n 1, 1) := by decide +kernel
theorem dX9_end_5 : decode cX9_end 5 = .ok (.invokevirtual 287, 3) := by decide +kernel
theorem dX9_end_8 : decode cX9_end 8 = .ok (.astore_n 3, 1) := by decide +kernel
theorem dX9_end_9 : decode cX9_end 9 = .ok (.aload_n 3, 1) := by decide +kernel
theorem dX9_end_10 : decode cX9_end 10 = .ok (.ifnonnull 7, 3) := by decide +kernel
theorem dX9_end_13 : decode cX9_end 13 = .ok (.sipush (-1001), 3) := by decide +kernel
theorem dX9_end_16 : decode cX9_end 16 = .ok (.ireturn, 1) := by decide +kernel
theorem dX9_end_17 : decode cX9_end 17 = .ok (.iload_n 2, 1) := by decide +kernel
theorem dX9_end_18 : decode cX9_end 18 = .ok (.invokestatic 290, 3) := by decide +kernel
theorem dX9_end_21 : decode cX9_end 21 = .ok (.ifCond .ne 7, 3) := by decide +kernel
theorem dX9_end_24 : decode cX9_end 24 = .ok (.sipush (-1002), 3) := by decide +kernel
theorem dX9_end_27 : decode cX9_end 27 = .ok (.ireturn, 1) := by decide +kernel
theorem dX9_end_28 : decode cX9_end 28 = .ok (.aload_n 0, 1) := by decide +kernel
theorem dX9_end_29 : decode cX9_end 29 = .ok (.aload_n 3, 1) := by decide +kernel
theorem dX9_end_30 : decode cX9_end 30 = .ok (.invokevirtual 293, 3) := by decide +kernel
theorem dX9_end_33 : decode cX9_end 33 = .ok (.aload_n 3, 1) := by decide +kernel
theorem dX9_end_34 : decode cX9_end 34 = .ok (.getfield 297, 3) := by decide +kernel
theorem dX9_end_37 : decode cX9_end 37 = .ok (.ifCond .eq 7, 3) := by decide +kernel
theorem dX9_end_40 : decode cX9_end 40 = .ok (.sipush (-1003), 3) := by decide +kernel
theorem dX9_end_43 : decode cX9_end 43 = .ok (.ireturn, 1) := by decide +kernel
theorem dX9_end_44 : decode cX9_end 44 = .ok (.aload_n 3, 1) := by decide +kernel
theorem dX9_end_45 : decode cX9_end 45 = .ok (.getfield 300, 3) := by decide +kernel
theorem dX9_end_48 : decode cX9_end 48 = .ok (.bipush 40, 2) := by decide +kernel
theorem dX9_end_50 : decode cX9_end 50 = .ok (.if_icmp .lt 7, 3) := by decide +kernel
theorem dX9_end_53 : decode cX9_end 53 = .ok (.sipush (-1004), 3) := by decide +kernel
theorem dX9_end_56 : decode cX9_end 56 = .ok (.ireturn, 1) := by decide +kernel
theorem dX9_end_57 : decode cX9_end 57 = .ok (.aload_n 3, 1) := by decide +kernel
theorem dX9_end_58 : decode cX9_end 58 = .ok (.getfield 303, 3) := by decide +kernel
theorem dX9_end_61 : decode cX9_end 61 = .ok (.aload_n 3, 1) := by decide +kernel
theorem dX9_end_62 : decode cX9_end 62 = .ok (.getfield 300, 3) := by decide +kernel
theorem dX9_end_65 : decode cX9_end 65 = .ok (.iload_n 2, 1) := by decide +kernel
theorem dX9_end_66 : decode cX9_end 66 = .ok (.iastore, 1) := by decide +kernel
theorem dX9_end_67 : decode cX9_end 67 = .ok (.aload_n 3, 1) := by decide +kernel
theorem dX9_end_68 : decode cX9_end 68 = .ok (.dup, 1) := by decide +kernel
theorem dX9_end_69 : decode cX9_end 69 = .ok (.getfield 300, 3) := by decide +kernel
theorem dX9_end_72 : decode cX9_end 72 = .ok (.iconst 1, 1) := by decide +kernel
theorem dX9_end_73 : decode cX9_end 73 = .ok (.iadd, 1) := by decide +kernel
theorem dX9_end_74 : decode cX9_end 74 = .ok (.putfield 300, 3) := by decide +kernel
theorem dX9_end_77 : decode cX9_end 77 = .ok (.aload_n 3, 1) := by decide +kernel
theorem dX9_end_78 : decode cX9_end 78 = .ok (.getfield 300, 3) := by decide +kernel
theorem dX9_end_81 : decode cX9_end 81 = .ok (.iconst 1, 1) := by decide +kernel
theorem dX9_end_82 : decode cX9_end 82 = .ok (.isub, 1) := by decide +kernel
theorem dX9_end_83 : decode cX9_end 83 = .ok (.ireturn, 1) := by decide +kernel
theorem dX9_mend_0 : decode cX9_mend 0 = .ok (.aload_n 0, 1) := by decide +kernel
theorem dX9_mend_1 : decode cX9_mend 1 = .ok (.getfield 51, 3) := by decide +kernel
theorem dX9_mend_4 : decode cX9_mend 4 = .ok (.iload_n 1, 1) := by decide +kernel
theorem dX9_mend_5 : decode cX9_mend 5 = .ok (.invokevirtual 287, 3) := by decide +kernel
theorem dX9_mend_8 : decode cX9_mend 8 = .ok (.astore 4, 2) := by decide +kernel
theorem dX9_mend_10 : decode cX9_mend 10 = .ok (.aload 4, 2) := by decide +kernel
theorem dX9_mend_12 : decode cX9_mend 12 = .ok (.ifnull 18, 3) := by decide +kernel
theorem dX9_mend_15 : decode cX9_mend 15 = .ok (.iload_n 2, 1) := by decide +kernel
theorem dX9_mend_16 : decode cX9_mend 16 = .ok (.iconst 0, 1) := by decide +kernel
theorem dX9_mend_17 : decode cX9_mend 17 = .ok (.aload 4, 2) := by decide +kernel
theorem dX9_mend_19 : decode cX9_mend 19 = .ok (.getfield 300, 3) := by decide +kernel
theorem dX9_mend_22 : decode cX9_mend 22 = .ok (.iconst 1, 1) := by decide +kernel
theorem dX9_mend_23 : decode cX9_mend 23 = .ok (.isub, 1) := by decide +kernel
theorem dX9_mend_24 : decode cX9_mend 24 = .ok (.invokestatic 66, 3) := by decide +kernel
theorem dX9_mend_27 : decode cX9_mend 27 = .ok (.ifCond .ne 7, 3) := by decide +kernel
theorem dX9_mend_30 : decode cX9_mend 30 = .ok (.sipush (-1001), 3) := by decide +kernel
theorem dX9_mend_33 : decode cX9_mend 33 = .ok (.ireturn, 1) := by decide +kernel
theorem dX9_mend_34 : decode cX9_mend 34 = .ok (.iload_n 3, 1) := by decide +kernel
theorem dX9_mend_35 : decode cX9_mend 35 = .ok (.invokestatic 290, 3) := by decide +kernel
theorem dX9_mend_38 : decode cX9_mend 38 = .ok (.ifCond .ne 7, 3) := by decide +kernel
theorem dX9_mend_41 : decode cX9_mend 41 = .ok (.sipush (-1002), 3) := by decide +kernel
theorem dX9_mend_44 : decode cX9_mend 44 = .ok (.ireturn, 1) := by decide +kernel
theorem dX9_mend_45 : decode cX9_mend 45 = .ok (.aload 4, 2) := by decide +kernel
theorem dX9_mend_47 : decode cX9_mend 47 = .ok (.getfield 303, 3) := by decide +kernel
theorem dX9_mend_50 : decode cX9_mend 50 = .ok (.iload_n 2, 1) := by decide +kernel
theorem dX9_mend_51 : decode cX9_mend 51 = .ok (.iaload, 1) := by decide +kernel
theorem dX9_mend_52 : decode cX9_mend 52 = .ok (.istore 5, 2) := by decide +kernel
theorem dX9_mend_54 : decode cX9_mend 54 = .ok (.aload 4, 2) := by decide +kernel
theorem dX9_mend_56 : decode cX9_mend 56 = .ok (.getfield 303, 3) := by decide +kernel
theorem dX9_mend_59 : decode cX9_mend 59 = .ok (.iload_n 2, 1) := by decide +kernel
theorem dX9_mend_60 : decode cX9_mend 60 = .ok (.iload_n 3, 1) := by decide +kernel
theorem dX9_mend_61 : decode cX9_mend 61 = .ok (.iastore, 1) := by decide +kernel
theorem dX9_mend_62 : decode cX9_mend 62 = .ok (.iload 5, 2) := by decide +kernel
theorem dX9_mend_64 : decode cX9_mend 64 = .ok (.ireturn, 1) := by decide +kernel
theorem dX9_dusk_0 : decode cX9_dusk 0 = .ok (.aload_n 0, 1) := by decide +kernel
theorem dX9_dusk_1 : decode cX9_dusk 1 = .ok (.getfield 51, 3) := by decide +kernel
theorem dX9_dusk_4 : decode cX9_dusk 4 = .ok (.iload_n 1, 1) := by decide +kernel
theorem dX9_dusk_5 : decode cX9_dusk 5 = .ok (.invokevirtual 287, 3) := by decide +kernel
theorem dX9_dusk_8 : decode cX9_dusk 8 = .ok (.astore_n 2, 1) := by decide +kernel
theorem dX9_dusk_9 : decode cX9_dusk 9 = .ok (.aload_n 2, 1) := by decide +kernel
theorem dX9_dusk_10 : decode cX9_dusk 10 = .ok (.ifnonnull 7, 3) := by decide +kernel
theorem dX9_dusk_13 : decode cX9_dusk 13 = .ok (.sipush (-1001), 3) := by decide +kernel
theorem dX9_dusk_16 : decode cX9_dusk 16 = .ok (.ireturn, 1) := by decide +kernel
theorem dX9_dusk_17 : decode cX9_dusk 17 = .ok (.aload_n 0, 1) := by decide +kernel
theorem dX9_dusk_18 : decode cX9_dusk 18 = .ok (.aload_n 2, 1) := by decide +kernel
theorem dX9_dusk_19 : decode cX9_dusk 19 = .ok (.invokevirtual 293, 3) := by decide +kernel
theorem dX9_dusk_22 : decode cX9_dusk 22 = .ok (.aload_n 2, 1) := by decide +kernel
theorem dX9_dusk_23 : decode cX9_dusk 23 = .ok (.getfield 297, 3) := by decide +kernel
theorem dX9_dusk_26 : decode cX9_dusk 26 = .ok (.ifCond .eq 7, 3) := by decide +kernel
theorem dX9_dusk_29 : decode cX9_dusk 29 = .ok (.sipush (-1003), 3) := by decide +kernel
theorem dX9_dusk_32 : decode cX9_dusk 32 = .ok (.ireturn, 1) := by decide +kernel
theorem dX9_dusk_33 : decode cX9_dusk 33 = .ok (.aload_n 2, 1) := by decide +kernel
theorem dX9_dusk_34 : decode cX9_dusk 34 = .ok (.iconst 1, 1) := by decide +kernel
theorem dX9_dusk_35 : decode cX9_dusk 35 = .ok (.putfield 306, 3) := by decide +kernel
theorem dX9_dusk_38 : decode cX9_dusk 38 = .ok (.iconst 1, 1) := by decide +kernel
theorem dX9_dusk_39 : decode cX9_dusk 39 = .ok (.ireturn, 1) := by decide +kernel
theorem dX9_about_0 : decode cX9_about 0 = .ok (.aload_n 0, 1) := by decide +kernel
theorem dX9_about_1 : decode cX9_about 1 = .ok (.getfield 51, 3) := by decide +kernel
theorem dX9_about_4 : decode cX9_about 4 = .ok (.iload_n 1, 1) := by decide +kernel
theorem dX9_about_5 : decode cX9_about 5 = .ok (.invokevirtual 287, 3) := by decide +kernel
theorem dX9_about_8 : decode cX9_about 8 = .ok (.astore_n 3, 1) := by decide +kernel
theorem dX9_about_9 : decode cX9_about 9 = .ok (.aload_n 3, 1) := by decide +kernel
theorem dX9_about_10 : decode cX9_about 10 = .ok (.ifnonnull 7, 3) := by decide +kernel
theorem dX9_about_13 : decode cX9_about 13 = .ok (.sipush (-1001), 3) := by decide +kernel
theorem dX9_about_16 : decode cX9_about 16 = .ok (.ireturn, 1) := by decide +kernel
theorem dX9_about_17 : decode cX9_about 17 = .ok (.aload_n 0, 1) := by decide +kernel
theorem dX9_about_18 : decode cX9_about 18 = .ok (.aload_n 3, 1) := by decide +kernel
theorem dX9_about_19 : decode cX9_about 19 = .ok (.invokevirtual 293, 3) := by decide +kernel
theorem dX9_about_22 : decode cX9_about 22 = .ok (.iload_n 2, 1) := by decide +kernel
theorem dX9_about_23 : decode cX9_about 23 = .ok (.tableswitch 85 0 7 #[45, 50, 55, 60, 65, 70, 75, 80], 45) := by decide +kernel
theorem dX9_about_68 : decode cX9_about 68 = .ok (.aload_n 3, 1) := by decide +kernel
theorem dX9_about_69 : decode cX9_about 69 = .ok (.getfield 309, 3) := by decide +kernel
theorem dX9_about_72 : decode cX9_about 72 = .ok (.ireturn, 1) := by decide +kernel
theorem dX9_about_73 : decode cX9_about 73 = .ok (.aload_n 3, 1) := by decide +kernel
theorem dX9_about_74 : decode cX9_about 74 = .ok (.getfield 312, 3) := by decide +kernel
theorem dX9_about_77 : decode cX9_about 77 = .ok (.ireturn, 1) := by decide +kernel
theorem dX9_about_78 : decode cX9_about 78 = .ok (.aload_n 3, 1) := by decide +kernel
theorem dX9_about_79 : decode cX9_about 79 = .ok (.getfield 315, 3) := by decide +kernel
theorem dX9_about_82 : decode cX9_about 82 = .ok (.ireturn, 1) := by decide +kernel
theorem dX9_about_83 : decode cX9_about 83 = .ok (.aload_n 3, 1) := by decide +kernel
theorem dX9_about_84 : decode cX9_about 84 = .ok (.getfield 300, 3) := by decide +kernel
theorem dX9_about_87 : decode cX9_about 87 = .ok (.ireturn, 1) := by decide +kernel
theorem dX9_about_88 : decode cX9_about 88 = .ok (.aload_n 3, 1) := by decide +kernel
theorem dX9_about_89 : decode cX9_about 89 = .ok (.getfield 318, 3) := by decide +kernel
theorem dX9_about_92 : decode cX9_about 92 = .ok (.ireturn, 1) := by decide +kernel
theorem dX9_about_93 : decode cX9_about 93 = .ok (.aload_n 3, 1) := by decide +kernel
theorem dX9_about_94 : decode cX9_about 94 = .ok (.getfield 319, 3) := by decide +kernel
theorem dX9_about_97 : decode cX9_about 97 = .ok (.ireturn, 1) := by decide +kernel
theorem dX9_about_98 : decode cX9_about 98 = .ok (.aload_n 3, 1) := by decide +kernel
theorem dX9_about_99 : decode cX9_about 99 = .ok (.getfield 322, 3) := by decide +kernel
theorem dX9_about_102 : decode cX9_about 102 = .ok (.ireturn, 1) := by decide +kernel
theorem dX9_about_103 : decode cX9_about 103 = .ok (.aload_n 3, 1) := by decide +kernel
theorem dX9_about_104 : decode cX9_about 104 = .ok (.getfield 297, 3) := by decide +kernel
theorem dX9_about_107 : decode cX9_about 107 = .ok (.ireturn, 1) := by decide +kernel
theorem dX9_about_108 : decode cX9_about 108 = .ok (.sipush (-1002), 3) := by decide +kernel
theorem dX9_about_111 : decode cX9_about 111 = .ok (.ireturn, 1) := by decide +kernel
theorem dX9_standing_0 : decode cX9_standing 0 = .ok (.iload_n 1, 1) := by decide +kernel
theorem dX9_standing_1 : decode cX9_standing 1 = .ok (.invokestatic 172, 3) := by decide +kernel
theorem dX9_standing_4 : decode cX9_standing 4 = .ok (.ifCond .ne 7, 3) := by decide +kernel
theorem dX9_standing_7 : decode cX9_standing 7 = .ok (.sipush (-1001), 3) := by decide +kernel
theorem dX9_standing_10 : decode cX9_standing 10 = .ok (.ireturn, 1) := by decide +kernel
theorem dX9_standing_11 : decode cX9_standing 11 = .ok (.iload_n 2, 1) := by decide +kernel
theorem dX9_standing_12 : decode cX9_standing 12 = .ok (.iconst 0, 1) := by decide +kernel
theorem dX9_standing_13 : decode cX9_standing 13 = .ok (.bipush 7, 2) := by decide +kernel
theorem dX9_standing_15 : decode cX9_standing 15 = .ok (.invokestatic 66, 3) := by decide +kernel
theorem dX9_standing_18 : decode cX9_standing 18 = .ok (.ifCond .ne 7, 3) := by decide +kernel
theorem dX9_standing_21 : decode cX9_standing 21 = .ok (.sipush (-1002), 3) := by decide +kernel
theorem dX9_standing_24 : decode cX9_standing 24 = .ok (.ireturn, 1) := by decide +kernel
theorem dX9_standing_25 : decode cX9_standing 25 = .ok (.aload_n 0, 1) := by decide +kernel
theorem dX9_standing_26 : decode cX9_standing 26 = .ok (.invokevirtual 325, 3) := by decide +kernel
theorem dX9_standing_29 : decode cX9_standing 29 = .ok (.aload_n 0, 1) := by decide +kernel
theorem dX9_standing_30 : decode cX9_standing 30 = .ok (.getfield 51, 3) := by decide +kernel
theorem dX9_standing_33 : decode cX9_standing 33 = .ok (.invokevirtual 328, 3) := by decide +kernel
theorem dX9_standing_36 : decode cX9_standing 36 = .ok (.iload_n 2, 1) := by decide +kernel
theorem dX9_standing_37 : decode cX9_standing 37 = .ok (.lookupswitch 45 #[(6, 27), (7, 36)], 27) := by decide +kernel
theorem dX9_standing_64 : decode cX9_standing 64 = .ok (.aload_n 0, 1) := by decide +kernel
theorem dX9_standing_65 : decode cX9_standing 65 = .ok (.getfield 51, 3) := by decide +kernel
theorem dX9_standing_68 : decode cX9_standing 68 = .ok (.iload_n 1, 1) := by decide +kernel
theorem dX9_standing_69 : decode cX9_standing 69 = .ok (.invokevirtual 331, 3) := by decide +kernel
theorem dX9_standing_72 : decode cX9_standing 72 = .ok (.ireturn, 1) := by decide +kernel
theorem dX9_standing_73 : decode cX9_standing 73 = .ok (.aload_n 0, 1) := by decide +kernel
theorem dX9_standing_74 : decode cX9_standing 74 = .ok (.getfield 51, 3) := by decide +kernel
theorem dX9_standing_77 : decode cX9_standing 77 = .ok (.iload_n 1, 1) := by decide +kernel
theorem dX9_standing_78 : decode cX9_standing 78 = .ok (.invokevirtual 334, 3) := by decide +kernel
theorem dX9_standing_81 : decode cX9_standing 81 = .ok (.ireturn, 1) := by decide +kernel
theorem dX9_standing_82 : decode cX9_standing 82 = .ok (.aload_n 0, 1) := by decide +kernel
theorem dX9_standing_83 : decode cX9_standing 83 = .ok (.getfield 51, 3) := by decide +kernel
theorem dX9_standing_86 : decode cX9_standing 86 = .ok (.getfield 337, 3) := by decide +kernel
theorem dX9_standing_89 : decode cX9_standing 89 = .ok (.iload_n 2, 1) := by decide +kernel
theorem dX9_standing_90 : decode cX9_standing 90 = .ok (.aaload, 1) := by decide +kernel
theorem dX9_standing_91 : decode cX9_standing 91 = .ok (.iload_n 1, 1) := by decide +kernel
theorem dX9_standing_92 : decode cX9_standing 92 = .ok (.iaload, 1) := by decide +kernel
theorem dX9_standing_93 : decode cX9_standing 93 = .ok (.ireturn, 1) := by decide +kernel
theorem dX9_order_0 : decode cX9_order 0 = .ok (.aload_n 0, 1) := by decide +kernel
theorem dX9_order_1 : decode cX9_order 1 = .ok (.getfield 58, 3) := by decide +kernel
theorem dX9_order_4 : decode cX9_order 4 = .ok (.aload_n 0, 1) := by decide +kernel
theorem dX9_order_5 : decode cX9_order 5 = .ok (.getfield 19, 3) := by decide +kernel
theorem dX9_order_8 : decode cX9_order 8 = .ok (.invokevirtual 341, 3) := by decide +kernel
theorem dX9_order_11 : decode cX9_order 11 = .ok (.istore_n 1, 1) := by decide +kernel
theorem dX9_order_12 : decode cX9_order 12 = .ok (.aload_n 0, 1) := by decide +kernel
theorem dX9_order_13 : decode cX9_order 13 = .ok (.getfield 19, 3) := by decide +kernel
theorem dX9_order_16 : decode cX9_order 16 = .ok (.invokevirtual 180, 3) := by decide +kernel
theorem dX9_order_19 : decode cX9_order 19 = .ok (.aload_n 0, 1) := by decide +kernel
theorem dX9_order_20 : decode cX9_order 20 = .ok (.getfield 19, 3) := by decide +kernel
theorem dX9_order_23 : decode cX9_order 23 = .ok (.invokevirtual 183, 3) := by decide +kernel
theorem dX9_order_26 : decode cX9_order 26 = .ok (.ifCond .ne 14, 3) := by decide +kernel
theorem dX9_order_29 : decode cX9_order 29 = .ok (.bipush (-10), 2) := by decide +kernel
theorem dX9_order_31 : decode cX9_order 31 = .ok (.aload_n 0, 1) := by decide +kernel
theorem dX9_order_32 : decode cX9_order 32 = .ok (.getfield 19, 3) := by decide +kernel
theorem dX9_order_35 : decode cX9_order 35 = .ok (.getfield 186, 3) := by decide +kernel
theorem dX9_order_38 : decode cX9_order 38 = .ok (.isub, 1) := by decide +kernel
theorem dX9_order_39 : decode cX9_order 39 = .ok (.ireturn, 1) := by decide +kernel
theorem dX9_order_40 : decode cX9_order 40 = .ok (.aload_n 0, 1) := by decide +kernel
theorem dX9_order_41 : decode cX9_order 41 = .ok (.getfield 51, 3) := by decide +kernel
theorem dX9_order_44 : decode cX9_order 44 = .ok (.getfield 158, 3) := by decide +kernel
theorem dX9_order_47 : decode cX9_order 47 = .ok (.aload_n 0, 1) := by decide +kernel
theorem dX9_order_48 : decode cX9_order 48 = .ok (.getfield 58, 3) := by decide +kernel
theorem dX9_order_51 : decode cX9_order 51 = .ok (.invokevirtual 342, 3) := by decide +kernel
theorem dX9_order_54 : decode cX9_order 54 = .ok (.iload_n 1, 1) := by decide +kernel
theorem dX9_order_55 : decode cX9_order 55 = .ok (.ireturn, 1) := by decide +kernel
theorem dX9_reach_0 : decode cX9_reach 0 = .ok (.iload_n 1, 1) := by decide +kernel
theorem dX9_reach_1 : decode cX9_reach 1 = .ok (.invokestatic 172, 3) := by decide +kernel
theorem dX9_reach_4 : decode cX9_reach 4 = .ok (.ifCond .ne 7, 3) := by decide +kernel
theorem dX9_reach_7 : decode cX9_reach 7 = .ok (.sipush (-1001), 3) := by decide +kernel
theorem dX9_reach_10 : decode cX9_reach 10 = .ok (.ireturn, 1) := by decide +kernel
theorem dX9_reach_11 : decode cX9_reach 11 = .ok (.iload_n 2, 1) := by decide +kernel
theorem dX9_reach_12 : decode cX9_reach 12 = .ok (.iconst 0, 1) := by decide +kernel
theorem dX9_reach_13 : decode cX9_reach 13 = .ok (.iconst 1, 1) := by decide +kernel
theorem dX9_reach_14 : decode cX9_reach 14 = .ok (.invokestatic 66, 3) := by decide +kernel
theorem dX9_reach_17 : decode cX9_reach 17 = .ok (.ifCond .ne 7, 3) := by decide +kernel
theorem dX9_reach_20 : decode cX9_reach 20 = .ok (.sipush (-1002), 3) := by decide +kernel
theorem dX9_reach_23 : decode cX9_reach 23 = .ok (.ireturn, 1) := by decide +kernel
theorem dX9_reach_24 : decode cX9_reach 24 = .ok (.aload_n 0, 1) := by decide +kernel
theorem dX9_reach_25 : decode cX9_reach 25 = .ok (.invokevirtual 152, 3) := by decide +kernel
theorem dX9_reach_28 : decode cX9_reach 28 = .ok (.bipush 6, 2) := by decide +kernel
theorem dX9_reach_30 : decode cX9_reach 30 = .ok (.if_icmp .le 7, 3) := by decide +kernel
theorem dX9_reach_33 : decode cX9_reach 33 = .ok (.sipush (-1005), 3) := by decide +kernel
theorem dX9_reach_36 : decode cX9_reach 36 = .ok (.ireturn, 1) := by decide +kernel
theorem dX9_reach_37 : decode cX9_reach 37 = .ok (.aload_n 0, 1) := by decide +kernel
theorem dX9_reach_38 : decode cX9_reach 38 = .ok (.getfield 51, 3) := by decide +kernel
theorem dX9_reach_41 : decode cX9_reach 41 = .ok (.invokevirtual 328, 3) := by decide +kernel
theorem dX9_reach_44 : decode cX9_reach 44 = .ok (.aload_n 0, 1) := by decide +kernel
theorem dX9_reach_45 : decode cX9_reach 45 = .ok (.getfield 51, 3) := by decide +kernel
theorem dX9_reach_48 : decode cX9_reach 48 = .ok (.iload_n 1, 1) := by decide +kernel
theorem dX9_reach_49 : decode cX9_reach 49 = .ok (.invokevirtual 345, 3) := by decide +kernel
theorem dX9_reach_52 : decode cX9_reach 52 = .ok (.iload_n 2, 1) := by decide +kernel
theorem dX9_reach_53 : decode cX9_reach 53 = .ok (.ifCond .ne 13, 3) := by decide +kernel
theorem dX9_reach_56 : decode cX9_reach 56 = .ok (.aload_n 0, 1) := by decide +kernel
theorem dX9_reach_57 : decode cX9_reach 57 = .ok (.getfield 51, 3) := by decide +kernel
theorem dX9_reach_60 : decode cX9_reach 60 = .ok (.getfield 348, 3) := by decide +kernel
theorem dX9_reach_63 : decode cX9_reach 63 = .ok (.goto 10, 3) := by decide +kernel
theorem dX9_reach_66 : decode cX9_reach 66 = .ok (.aload_n 0, 1) := by decide +kernel
theorem dX9_reach_67 : decode cX9_reach 67 = .ok (.getfield 51, 3) := by decide +kernel
theorem dX9_reach_70 : decode cX9_reach 70 = .ok (.getfield 351, 3) := by decide +kernel
theorem dX9_reach_73 : decode cX9_reach 73 = .ok (.ireturn, 1) := by decide +kernel
theorem dX9_settle_0 : decode cX9_settle 0 = .ok (.aload_n 1, 1) := by decide +kernel
theorem dX9_settle_1 : decode cX9_settle 1 = .ok (.aload_n 0, 1) := by decide +kernel
theorem dX9_settle_2 : decode cX9_settle 2 = .ok (.getfield 25, 3) := by decide +kernel
theorem dX9_settle_5 : decode cX9_settle 5 = .ok (.aload_n 1, 1) := by decide +kernel
theorem dX9_settle_6 : decode cX9_settle 6 = .ok (.getfield 309, 3) := by decide +kernel
theorem dX9_settle_9 : decode cX9_settle 9 = .ok (.aaload, 1) := by decide +kernel
theorem dX9_settle_10 : decode cX9_settle 10 = .ok (.getfield 196, 3) := by decide +kernel
theorem dX9_settle_13 : decode cX9_settle 13 = .ok (.iconst 4, 1) := by decide +kernel
theorem dX9_settle_14 : decode cX9_settle 14 = .ok (.iaload, 1) := by decide +kernel
theorem dX9_settle_15 : decode cX9_settle 15 = .ok (.aload_n 0, 1) := by decide +kernel
theorem dX9_settle_16 : decode cX9_settle 16 = .ok (.getfield 25, 3) := by decide +kernel
theorem dX9_settle_19 : decode cX9_settle 19 = .ok (.aload_n 1, 1) := by decide +kernel
theorem dX9_settle_20 : decode cX9_settle 20 = .ok (.getfield 312, 3) := by decide +kernel
theorem dX9_settle_23 : decode cX9_settle 23 = .ok (.aaload, 1) := by decide +kernel
theorem dX9_settle_24 : decode cX9_settle 24 = .ok (.getfield 196, 3) := by decide +kernel
theorem dX9_settle_27 : decode cX9_settle 27 = .ok (.iconst 4, 1) := by decide +kernel
theorem dX9_settle_28 : decode cX9_settle 28 = .ok (.iaload, 1) := by decide +kernel
theorem dX9_settle_29 : decode cX9_settle 29 = .ok (.invokevirtual 354, 3) := by decide +kernel
theorem dX9_settle_32 : decode cX9_settle 32 = .ok (.return_, 1) := by decide +kernel
theorem dX9_settleAll_0 : decode cX9_settleAll 0 = .ok (.iconst 0, 1) := by decide +kernel
theorem dX9_settleAll_1 : decode cX9_settleAll 1 = .ok (.istore_n 1, 1) := by decide +kernel
theorem dX9_settleAll_2 : decode cX9_settleAll 2 = .ok (.iload_n 1, 1) := by decide +kernel
theorem dX9_settleAll_3 : decode cX9_settleAll 3 = .ok (.aload_n 0, 1) := by decide +kernel
theorem dX9_settleAll_4 : decode cX9_settleAll 4 = .ok (.getfield 51, 3) := by decide +kernel
theorem dX9_settleAll_7 : decode cX9_settleAll 7 = .ok (.getfield 149, 3) := by decide +kernel
theorem dX9_settleAll_10 : decode cX9_settleAll 10 = .ok (.if_icmp .ge 22, 3) := by decide +kernel
theorem dX9_settleAll_13 : decode cX9_settleAll 13 = .ok (.aload_n 0, 1) := by decide +kernel
theorem dX9_settleAll_14 : decode cX9_settleAll 14 = .ok (.aload_n 0, 1) := by decide +kernel
theorem dX9_settleAll_15 : decode cX9_settleAll 15 = .ok (.getfield 51, 3) := by decide +kernel
theorem dX9_settleAll_18 : decode cX9_settleAll 18 = .ok (.getfield 356, 3) := by decide +kernel
theorem dX9_settleAll_21 : decode cX9_settleAll 21 = .ok (.iload_n 1, 1) := by decide +kernel
theorem dX9_settleAll_22 : decode cX9_settleAll 22 = .ok (.aaload, 1) := by decide +kernel
theorem dX9_settleAll_23 : decode cX9_settleAll 23 = .ok (.invokevirtual 293, 3) := by decide +kernel
theorem dX9_settleAll_26 : decode cX9_settleAll 26 = .ok (.iinc 1 1, 3) := by decide +kernel
theorem dX9_settleAll_29 : decode cX9_settleAll 29 = .ok (.goto (-27), 3) := by decide +kernel
theorem dX9_settleAll_32 : decode cX9_settleAll 32 = .ok (.return_, 1) := by decide +kernel
theorem dX9_openMatches_0 : decode cX9_openMatches 0 = .ok (.aload_n 0, 1) := by decide +kernel
theorem dX9_openMatches_1 : decode cX9_openMatches 1 = .ok (.invokevirtual 325, 3) := by decide +kernel
theorem dX9_openMatches_4 : decode cX9_openMatches 4 = .ok (.aload_n 0, 1) := by decide +kernel
theorem dX9_openMatches_5 : decode cX9_openMatches 5 = .ok (.getfield 51, 3) := by decide +kernel
theorem dX9_openMatches_8 : decode cX9_openMatches 8 = .ok (.invokevirtual 360, 3) := by decide +kernel
theorem dX9_openMatches_11 : decode cX9_openMatches 11 = .ok (.ireturn, 1) := by decide +kernel
theorem dX9_within_0 : decode cX9_within 0 = .ok (.iload_n 0, 1) := by decide +kernel
theorem dX9_within_1 : decode cX9_within 1 = .ok (.iload_n 1, 1) := by decide +kernel
theorem dX9_within_2 : decode cX9_within 2 = .ok (.if_icmp .lt 12, 3) := by decide +kernel
theorem dX9_within_5 : decode cX9_within 5 = .ok (.iload_n 0, 1) := by decide +kernel
theorem dX9_within_6 : decode cX9_within 6 = .ok (.iload_n 2, 1) := by decide +kernel
theorem dX9_within_7 : decode cX9_within 7 = .ok (.if_icmp .gt 7, 3) := by decide +kernel
theorem dX9_within_10 : decode cX9_within 10 = .ok (.iconst 1, 1) := by decide +kernel
theorem dX9_within_11 : decode cX9_within 11 = .ok (.goto 4, 3) := by decide +kernel
theorem dX9_within_14 : decode cX9_within 14 = .ok (.iconst 0, 1) := by decide +kernel
theorem dX9_within_15 : decode cX9_within 15 = .ok (.ireturn, 1) := by decide +kernel
theorem dX9_isVillage_0 : decode cX9_isVillage 0 = .ok (.iload_n 0, 1) := by decide +kernel
theorem dX9_isVillage_1 : decode cX9_isVillage 1 = .ok (.iconst 0, 1) := by decide +kernel
theorem dX9_isVillage_2 : decode cX9_isVillage 2 = .ok (.iconst 5, 1) := by decide +kernel
theorem dX9_isVillage_3 : decode cX9_isVillage 3 = .ok (.invokestatic 66, 3) := by decide +kernel
theorem dX9_isVillage_6 : decode cX9_isVillage 6 = .ok (.ireturn, 1) := by decide +kernel
theorem dX9_isPlace_0 : decode cX9_isPlace 0 = .ok (.iload_n 0, 1) := by decide +kernel
theorem dX9_isPlace_1 : decode cX9_isPlace 1 = .ok (.sipush (-600), 3) := by decide +kernel
theorem dX9_isPlace_4 : decode cX9_isPlace 4 = .ok (.sipush 600, 3) := by decide +kernel
theorem dX9_isPlace_7 : decode cX9_isPlace 7 = .ok (.invokestatic 66, 3) := by decide +kernel
theorem dX9_isPlace_10 : decode cX9_isPlace 10 = .ok (.ifCond .eq 20, 3) := by decide +kernel
theorem dX9_isPlace_13 : decode cX9_isPlace 13 = .ok (.iload_n 1, 1) := by decide +kernel
theorem dX9_isPlace_14 : decode cX9_isPlace 14 = .ok (.sipush (-600), 3) := by decide +kernel
theorem dX9_isPlace_17 : decode cX9_isPlace 17 = .ok (.sipush 600, 3) := by decide +kernel
theorem dX9_isPlace_20 : decode cX9_isPlace 20 = .ok (.invokestatic 66, 3) := by decide +kernel
theorem dX9_isPlace_23 : decode cX9_isPlace 23 = .ok (.ifCond .eq 7, 3) := by decide +kernel
theorem dX9_isPlace_26 : decode cX9_isPlace 26 = .ok (.iconst 1, 1) := by decide +kernel
theorem dX9_isPlace_27 : decode cX9_isPlace 27 = .ok (.goto 4, 3) := by decide +kernel
theorem dX9_isPlace_30 : decode cX9_isPlace 30 = .ok (.iconst 0, 1) := by decide +kernel
theorem dX9_isPlace_31 : decode cX9_isPlace 31 = .ok (.ireturn, 1) := by decide +kernel
theorem dX9_isWeight_0 : decode cX9_isWeight 0 = .ok (.iload_n 0, 1) := by decide +kernel
theorem dX9_isWeight_1 : decode cX9_isWeight 1 = .ok (.iconst 0, 1) := by decide +kernel
theorem dX9_isWeight_2 : decode cX9_isWeight 2 = .ok (.bipush 60, 2) := by decide +kernel
theorem dX9_isWeight_4 : decode cX9_isWeight 4 = .ok (.invokestatic 66, 3) := by decide +kernel
theorem dX9_isWeight_7 : decode cX9_isWeight 7 = .ok (.ireturn, 1) := by decide +kernel
theorem dX9_isEndScore_0 : decode cX9_isEndScore 0 = .ok (.iload_n 0, 1) := by decide +kernel
theorem dX9_isEndScore_1 : decode cX9_isEndScore 1 = .ok (.bipush (-99), 2) := by decide +kernel
theorem dX9_isEndScore_3 : decode cX9_isEndScore 3 = .ok (.bipush 99, 2) := by decide +kernel
theorem dX9_isEndScore_5 : decode cX9_isEndScore 5 = .ok (.invokestatic 66, 3) := by decide +kernel
theorem dX9_isEndScore_8 : decode cX9_isEndScore 8 = .ok (.ireturn, 1) := by decide +kernel
theorem dX9_asNumber_0 : decode cX9_asNumber 0 = .ok (.iload_n 0, 1) := by decide +kernel
theorem dX9_asNumber_1 : decode cX9_asNumber 1 = .ok (.ifCond .eq 7, 3) := by decide +kernel
theorem dX9_asNumber_4 : decode cX9_asNumber 4 = .ok (.iconst 1, 1) := by decide +kernel
theorem dX9_asNumber_5 : decode cX9_asNumber 5 = .ok (.goto 4, 3) := by decide +kernel
theorem dX9_asNumber_8 : decode cX9_asNumber 8 = .ok (.iconst 0, 1) := by decide +kernel
theorem dX9_asNumber_9 : decode cX9_asNumber 9 = .ok (.ireturn, 1) := by decide +kernel
theorem dX9_commonDivisor_0 : decode cX9_commonDivisor 0 = .ok (.lload_n 0, 1) := by decide +kernel
theorem dX9_commonDivisor_1 : decode cX9_commonDivisor 1 = .ok (.lstore 4, 2) := by decide +kernel
theorem dX9_commonDivisor_3 : decode cX9_commonDivisor 3 = .ok (.lload_n 2, 1) := by decide +kernel
theorem dX9_commonDivisor_4 : decode cX9_commonDivisor 4 = .ok (.lstore 6, 2) := by decide +kernel
theorem dX9_commonDivisor_6 : decode cX9_commonDivisor 6 = .ok (.iconst 0, 1) := by decide +kernel
theorem dX9_commonDivisor_7 : decode cX9_commonDivisor 7 = .ok (.istore 8, 2) := by decide +kernel
theorem dX9_commonDivisor_9 : decode cX9_commonDivisor 9 = .ok (.iload 8, 2) := by decide +kernel
theorem dX9_commonDivisor_11 : decode cX9_commonDivisor 11 = .ok (.bipush 100, 2) := by decide +kernel
theorem dX9_commonDivisor_13 : decode cX9_commonDivisor 13 = .ok (.if_icmp .ge 31, 3) := by decide +kernel
theorem dX9_commonDivisor_16 : decode cX9_commonDivisor 16 = .ok (.lload 6, 2) := by decide +kernel
theorem dX9_commonDivisor_18 : decode cX9_commonDivisor 18 = .ok (.lconst 0, 1) := by decide +kernel
theorem dX9_commonDivisor_19 : decode cX9_commonDivisor 19 = .ok (.lcmp, 1) := by decide +kernel
theorem dX9_commonDivisor_20 : decode cX9_commonDivisor 20 = .ok (.ifCond .eq 24, 3) := by decide +kernel
theorem dX9_commonDivisor_23 : decode cX9_commonDivisor 23 = .ok (.lload 4, 2) := by decide +kernel
theorem dX9_commonDivisor_25 : decode cX9_commonDivisor 25 = .ok (.lload 6, 2) := by decide +kernel
theorem dX9_commonDivisor_27 : decode cX9_commonDivisor 27 = .ok (.lrem, 1) := by decide +kernel
theorem dX9_commonDivisor_28 : decode cX9_commonDivisor 28 = .ok (.lstore 9, 2) := by decide +kernel
theorem dX9_commonDivisor_30 : decode cX9_commonDivisor 30 = .ok (.lload 6, 2) := by decide +kernel
theorem dX9_commonDivisor_32 : decode cX9_commonDivisor 32 = .ok (.lstore 4, 2) := by decide +kernel
theorem dX9_commonDivisor_34 : decode cX9_commonDivisor 34 = .ok (.lload 9, 2) := by decide +kernel
theorem dX9_commonDivisor_36 : decode cX9_commonDivisor 36 = .ok (.lstore 6, 2) := by decide +kernel
theorem dX9_commonDivisor_38 : decode cX9_commonDivisor 38 = .ok (.iinc 8 1, 3) := by decide +kernel
theorem dX9_commonDivisor_41 : decode cX9_commonDivisor 41 = .ok (.goto (-32), 3) := by decide +kernel
theorem dX9_commonDivisor_44 : decode cX9_commonDivisor 44 = .ok (.lload 4, 2) := by decide +kernel
theorem dX9_commonDivisor_46 : decode cX9_commonDivisor 46 = .ok (.lreturn, 1) := by decide +kernel
theorem dX9_wholeRoot_0 : decode cX9_wholeRoot 0 = .ok (.iconst 0, 1) := by decide +kernel
theorem dX9_wholeRoot_1 : decode cX9_wholeRoot 1 = .ok (.istore_n 1, 1) := by decide +kernel
theorem dX9_wholeRoot_2 : decode cX9_wholeRoot 2 = .ok (.sipush 512, 3) := by decide +kernel
theorem dX9_wholeRoot_5 : decode cX9_wholeRoot 5 = .ok (.istore_n 2, 1) := by decide +kernel
theorem dX9_wholeRoot_6 : decode cX9_wholeRoot 6 = .ok (.iload_n 2, 1) := by decide +kernel
theorem dX9_wholeRoot_7 : decode cX9_wholeRoot 7 = .ok (.ifCond .le 23, 3) := by decide +kernel
theorem dX9_wholeRoot_10 : decode cX9_wholeRoot 10 = .ok (.iload_n 1, 1) := by decide +kernel
theorem dX9_wholeRoot_11 : decode cX9_wholeRoot 11 = .ok (.iload_n 2, 1) := by decide +kernel
theorem dX9_wholeRoot_12 : decode cX9_wholeRoot 12 = .ok (.iadd, 1) := by decide +kernel
theorem dX9_wholeRoot_13 : decode cX9_wholeRoot 13 = .ok (.istore_n 3, 1) := by decide +kernel
theorem dX9_wholeRoot_14 : decode cX9_wholeRoot 14 = .ok (.iload_n 3, 1) := by decide +kernel
theorem dX9_wholeRoot_15 : decode cX9_wholeRoot 15 = .ok (.iload_n 3, 1) := by decide +kernel
theorem dX9_wholeRoot_16 : decode cX9_wholeRoot 16 = .ok (.imul, 1) := by decide +kernel
theorem dX9_wholeRoot_17 : decode cX9_wholeRoot 17 = .ok (.iload_n 0, 1) := by decide +kernel
theorem dX9_wholeRoot_18 : decode cX9_wholeRoot 18 = .ok (.if_icmp .gt 5, 3) := by decide +kernel
theorem dX9_wholeRoot_21 : decode cX9_wholeRoot 21 = .ok (.iload_n 3, 1) := by decide +kernel
theorem dX9_wholeRoot_22 : decode cX9_wholeRoot 22 = .ok (.istore_n 1, 1) := by decide +kernel
theorem dX9_wholeRoot_23 : decode cX9_wholeRoot 23 = .ok (.iload_n 2, 1) := by decide +kernel
theorem dX9_wholeRoot_24 : decode cX9_wholeRoot 24 = .ok (.iconst 2, 1) := by decide +kernel
theorem dX9_wholeRoot_25 : decode cX9_wholeRoot 25 = .ok (.idiv, 1) := by decide +kernel
theorem dX9_wholeRoot_26 : decode cX9_wholeRoot 26 = .ok (.istore_n 2, 1) := by decide +kernel
theorem dX9_wholeRoot_27 : decode cX9_wholeRoot 27 = .ok (.goto (-21), 3) := by decide +kernel
theorem dX9_wholeRoot_30 : decode cX9_wholeRoot 30 = .ok (.iload_n 1, 1) := by decide +kernel
theorem dX9_wholeRoot_31 : decode cX9_wholeRoot 31 = .ok (.ireturn, 1) := by decide +kernel
theorem dX9_compareSums_0 : decode cX9_compareSums 0 = .ok (.lload 6, 2) := by decide +kernel
theorem dX9_compareSums_2 : decode cX9_compareSums 2 = .ok (.lload_n 2, 1) := by decide +kernel
theorem dX9_compareSums_3 : decode cX9_compareSums 3 = .ok (.lcmp, 1) := by decide +kernel
theorem dX9_compareSums_4 : decode cX9_compareSums 4 = .ok (.ifCond .lt 16, 3) := by decide +kernel
theorem dX9_compareSums_7 : decode cX9_compareSums 7 = .ok (.lload_n 0, 1) := by decide +kernel
theorem dX9_compareSums_8 : decode cX9_compareSums 8 = .ok (.lload 4, 2) := by decide +kernel
theorem dX9_compareSums_10 : decode cX9_compareSums 10 = .ok (.lload 6, 2) := by decide +kernel
theorem dX9_compareSums_12 : decode cX9_compareSums 12 = .ok (.lload_n 2, 1) := by decide +kernel
theorem dX9_compareSums_13 : decode cX9_compareSums 13 = .ok (.lsub, 1) := by decide +kernel
theorem dX9_compareSums_14 : decode cX9_compareSums 14 = .ok (.invokestatic 363, 3) := by decide +kernel
theorem dX9_compareSums_17 : decode cX9_compareSums 17 = .ok (.goto 14, 3) := by decide +kernel
theorem dX9_compareSums_20 : decode cX9_compareSums 20 = .ok (.lload 4, 2) := by decide +kernel
theorem dX9_compareSums_22 : decode cX9_compareSums 22 = .ok (.lload_n 0, 1) := by decide +kernel
theorem dX9_compareSums_23 : decode cX9_compareSums 23 = .ok (.lload_n 2, 1) := by decide +kernel
theorem dX9_compareSums_24 : decode cX9_compareSums 24 = .ok (.lload 6, 2) := by decide +kernel
theorem dX9_compareSums_26 : decode cX9_compareSums 26 = .ok (.lsub, 1) := by decide +kernel
theorem dX9_compareSums_27 : decode cX9_compareSums 27 = .ok (.invokestatic 363, 3) := by decide +kernel
theorem dX9_compareSums_30 : decode cX9_compareSums 30 = .ok (.ineg, 1) := by decide +kernel
theorem dX9_compareSums_31 : decode cX9_compareSums 31 = .ok (.ireturn, 1) := by decide +kernel
theorem dX9_compareRoots_0 : decode cX9_compareRoots 0 = .ok (.lload_n 0, 1) := by decide +kernel
theorem dX9_compareRoots_1 : decode cX9_compareRoots 1 = .ok (.lload_n 2, 1) := by decide +kernel
theorem dX9_compareRoots_2 : decode cX9_compareRoots 2 = .ok (.lsub, 1) := by decide +kernel
theorem dX9_compareRoots_3 : decode cX9_compareRoots 3 = .ok (.lload 4, 2) := by decide +kernel
theorem dX9_compareRoots_5 : decode cX9_compareRoots 5 = .ok (.lload 4, 2) := by decide +kernel
theorem dX9_compareRoots_7 : decode cX9_compareRoots 7 = .ok (.lmul, 1) := by decide +kernel
theorem dX9_compareRoots_8 : decode cX9_compareRoots 8 = .ok (.lsub, 1) := by decide +kernel
theorem dX9_compareRoots_9 : decode cX9_compareRoots 9 = .ok (.lstore 6, 2) := by decide +kernel
theorem dX9_compareRoots_11 : decode cX9_compareRoots 11 = .ok (.lload 6, 2) := by decide +kernel
theorem dX9_compareRoots_13 : decode cX9_compareRoots 13 = .ok (.lconst 0, 1) := by decide +kernel
theorem dX9_compareRoots_14 : decode cX9_compareRoots 14 = .ok (.lcmp, 1) := by decide +kernel
theorem dX9_compareRoots_15 : decode cX9_compareRoots 15 = .ok (.ifCond .ge 5, 3) := by decide +kernel
theorem dX9_compareRoots_18 : decode cX9_compareRoots 18 = .ok (.iconst (-1), 1) := by decide +kernel
theorem dX9_compareRoots_19 : decode cX9_compareRoots 19 = .ok (.ireturn, 1) := by decide +kernel
theorem dX9_compareRoots_20 : decode cX9_compareRoots 20 = .ok (.lload 6, 2) := by decide +kernel
theorem dX9_compareRoots_22 : decode cX9_compareRoots 22 = .ok (.lload 6, 2) := by decide +kernel
theorem dX9_compareRoots_24 : decode cX9_compareRoots 24 = .ok (.lmul, 1) := by decide +kernel
theorem dX9_compareRoots_25 : decode cX9_compareRoots 25 = .ok (.ldc2_w 367, 3) := by decide +kernel
theorem dX9_compareRoots_28 : decode cX9_compareRoots 28 = .ok (.lload 4, 2) := by decide +kernel
theorem dX9_compareRoots_30 : decode cX9_compareRoots 30 = .ok (.lmul, 1) := by decide +kernel
theorem dX9_compareRoots_31 : decode cX9_compareRoots 31 = .ok (.lload 4, 2) := by decide +kernel
theorem dX9_compareRoots_33 : decode cX9_compareRoots 33 = .ok (.lmul, 1) := by decide +kernel
theorem dX9_compareRoots_34 : decode cX9_compareRoots 34 = .ok (.lload_n 2, 1) := by decide +kernel
theorem dX9_compareRoots_35 : decode cX9_compareRoots 35 = .ok (.lmul, 1) := by decide +kernel
theorem dX9_compareRoots_36 : decode cX9_compareRoots 36 = .ok (.invokestatic 369, 3) := by decide +kernel
theorem dX9_compareRoots_39 : decode cX9_compareRoots 39 = .ok (.ireturn, 1) := by decide +kernel
theorem dJ6_bitCount_0f7a4_0 : decode cJ6_bitCount_0f7a4 0 = .ok (.iload_n 0, 1) := by decide +kernel
theorem dJ6_bitCount_0f7a4_1 : decode cJ6_bitCount_0f7a4 1 = .ok (.iload_n 0, 1) := by decide +kernel
theorem dJ6_bitCount_0f7a4_2 : decode cJ6_bitCount_0f7a4 2 = .ok (.iconst 1, 1) := by decide +kernel
theorem dJ6_bitCount_0f7a4_3 : decode cJ6_bitCount_0f7a4 3 = .ok (.iushr, 1) := by decide +kernel
theorem dJ6_bitCount_0f7a4_4 : decode cJ6_bitCount_0f7a4 4 = .ok (.ldc_w 265, 3) := by decide +kernel
theorem dJ6_bitCount_0f7a4_7 : decode cJ6_bitCount_0f7a4 7 = .ok (.iand, 1) := by decide +kernel
theorem dJ6_bitCount_0f7a4_8 : decode cJ6_bitCount_0f7a4 8 = .ok (.isub, 1) := by decide +kernel
theorem dJ6_bitCount_0f7a4_9 : decode cJ6_bitCount_0f7a4 9 = .ok (.istore_n 0, 1) := by decide +kernel
theorem dJ6_bitCount_0f7a4_10 : decode cJ6_bitCount_0f7a4 10 = .ok (.iload_n 0, 1) := by decide +kernel
theorem dJ6_bitCount_0f7a4_11 : decode cJ6_bitCount_0f7a4 11 = .ok (.ldc_w 266, 3) := by decide +kernel
theorem dJ6_bitCount_0f7a4_14 : decode cJ6_bitCount_0f7a4 14 = .ok (.iand, 1) := by decide +kernel
theorem dJ6_bitCount_0f7a4_15 : decode cJ6_bitCount_0f7a4 15 = .ok (.iload_n 0, 1) := by decide +kernel
theorem dJ6_bitCount_0f7a4_16 : decode cJ6_bitCount_0f7a4 16 = .ok (.iconst 2, 1) := by decide +kernel
theorem dJ6_bitCount_0f7a4_17 : decode cJ6_bitCount_0f7a4 17 = .ok (.iushr, 1) := by decide +kernel
theorem dJ6_bitCount_0f7a4_18 : decode cJ6_bitCount_0f7a4 18 = .ok (.ldc_w 266, 3) := by decide +kernel
theorem dJ6_bitCount_0f7a4_21 : decode cJ6_bitCount_0f7a4 21 = .ok (.iand, 1) := by decide +kernel
theorem dJ6_bitCount_0f7a4_22 : decode cJ6_bitCount_0f7a4 22 = .ok (.iadd, 1) := by decide +kernel
theorem dJ6_bitCount_0f7a4_23 : decode cJ6_bitCount_0f7a4 23 = .ok (.istore_n 0, 1) := by decide +kernel
theorem dJ6_bitCount_0f7a4_24 : decode cJ6_bitCount_0f7a4 24 = .ok (.iload_n 0, 1) := by decide +kernel
theorem dJ6_bitCount_0f7a4_25 : decode cJ6_bitCount_0f7a4 25 = .ok (.iload_n 0, 1) := by decide +kernel
theorem dJ6_bitCount_0f7a4_26 : decode cJ6_bitCount_0f7a4 26 = .ok (.iconst 4, 1) := by decide +kernel
theorem dJ6_bitCount_0f7a4_27 : decode cJ6_bitCount_0f7a4 27 = .ok (.iushr, 1) := by decide +kernel
theorem dJ6_bitCount_0f7a4_28 : decode cJ6_bitCount_0f7a4 28 = .ok (.iadd, 1) := by decide +kernel
theorem dJ6_bitCount_0f7a4_29 : decode cJ6_bitCount_0f7a4 29 = .ok (.ldc_w 267, 3) := by decide +kernel
theorem dJ6_bitCount_0f7a4_32 : decode cJ6_bitCount_0f7a4 32 = .ok (.iand, 1) := by decide +kernel
theorem dJ6_bitCount_0f7a4_33 : decode cJ6_bitCount_0f7a4 33 = .ok (.istore_n 0, 1) := by decide +kernel
theorem dJ6_bitCount_0f7a4_34 : decode cJ6_bitCount_0f7a4 34 = .ok (.iload_n 0, 1) := by decide +kernel
theorem dJ6_bitCount_0f7a4_35 : decode cJ6_bitCount_0f7a4 35 = .ok (.iload_n 0, 1) := by decide +kernel
theorem dJ6_bitCount_0f7a4_36 : decode cJ6_bitCount_0f7a4 36 = .ok (.bipush 8, 2) := by decide +kernel
theorem dJ6_bitCount_0f7a4_38 : decode cJ6_bitCount_0f7a4 38 = .ok (.iushr, 1) := by decide +kernel
theorem dJ6_bitCount_0f7a4_39 : decode cJ6_bitCount_0f7a4 39 = .ok (.iadd, 1) := by decide +kernel
theorem dJ6_bitCount_0f7a4_40 : decode cJ6_bitCount_0f7a4 40 = .ok (.istore_n 0, 1) := by decide +kernel
theorem dJ6_bitCount_0f7a4_41 : decode cJ6_bitCount_0f7a4 41 = .ok (.iload_n 0, 1) := by decide +kernel
theorem dJ6_bitCount_0f7a4_42 : decode cJ6_bitCount_0f7a4 42 = .ok (.iload_n 0, 1) := by decide +kernel
theorem dJ6_bitCount_0f7a4_43 : decode cJ6_bitCount_0f7a4 43 = .ok (.bipush 16, 2) := by decide +kernel
theorem dJ6_bitCount_0f7a4_45 : decode cJ6_bitCount_0f7a4 45 = .ok (.iushr, 1) := by decide +kernel
theorem dJ6_bitCount_0f7a4_46 : decode cJ6_bitCount_0f7a4 46 = .ok (.iadd, 1) := by decide +kernel
theorem dJ6_bitCount_0f7a4_47 : decode cJ6_bitCount_0f7a4 47 = .ok (.istore_n 0, 1) := by decide +kernel
theorem dJ6_bitCount_0f7a4_48 : decode cJ6_bitCount_0f7a4 48 = .ok (.iload_n 0, 1) := by decide +kernel
theorem dJ6_bitCount_0f7a4_49 : decode cJ6_bitCount_0f7a4 49 = .ok (.bipush 63, 2) := by decide +kernel
theorem dJ6_bitCount_0f7a4_51 : decode cJ6_bitCount_0f7a4 51 = .ok (.iand, 1) := by decide +kernel
theorem dJ6_bitCount_0f7a4_52 : decode cJ6_bitCount_0f7a4 52 = .ok (.ireturn, 1) := by decide +kernel
theorem dJ13_compare_74951_0 : decode cJ13_compare_74951 0 = .ok (.lload_n 0, 1) := by decide +kernel
theorem dJ13_compare_74951_1 : decode cJ13_compare_74951 1 = .ok (.lload_n 2, 1) := by decide +kernel
theorem dJ13_compare_74951_2 : decode cJ13_compare_74951 2 = .ok (.lcmp, 1) := by decide +kernel
theorem dJ13_compare_74951_3 : decode cJ13_compare_74951 3 = .ok (.ifCond .ge 7, 3) := by decide +kernel
theorem dJ13_compare_74951_6 : decode cJ13_compare_74951 6 = .ok (.iconst (-1), 1) := by decide +kernel
theorem dJ13_compare_74951_7 : decode cJ13_compare_74951 7 = .ok (.goto 14, 3) := by decide +kernel
theorem dJ13_compare_74951_10 : decode cJ13_compare_74951 10 = .ok (.lload_n 0, 1) := by decide +kernel
theorem dJ13_compare_74951_11 : decode cJ13_compare_74951 11 = .ok (.lload_n 2, 1) := by decide +kernel
theorem dJ13_compare_74951_12 : decode cJ13_compare_74951 12 = .ok (.lcmp, 1) := by decide +kernel
theorem dJ13_compare_74951_13 : decode cJ13_compare_74951 13 = .ok (.ifCond .ne 7, 3) := by decide +kernel
theorem dJ13_compare_74951_16 : decode cJ13_compare_74951 16 = .ok (.iconst 0, 1) := by decide +kernel
theorem dJ13_compare_74951_17 : decode cJ13_compare_74951 17 = .ok (.goto 4, 3) := by decide +kernel
theorem dJ13_compare_74951_20 : decode cJ13_compare_74951 20 = .ok (.iconst 1, 1) := by decide +kernel
theorem dJ13_compare_74951_21 : decode cJ13_compare_74951 21 = .ok (.ireturn, 1) := by decide +kernel
theorem dJ9_max_7cf53_0 : decode cJ9_max_7cf53 0 = .ok (.iload_n 0, 1) := by decide +kernel
theorem dJ9_max_7cf53_1 : decode cJ9_max_7cf53 1 = .ok (.iload_n 1, 1) := by decide +kernel
theorem dJ9_max_7cf53_2 : decode cJ9_max_7cf53 2 = .ok (.if_icmp .lt 7, 3) := by decide +kernel
theorem dJ9_max_7cf53_5 : decode cJ9_max_7cf53 5 = .ok (.iload_n 0, 1) := by decide +kernel
theorem dJ9_max_7cf53_6 : decode cJ9_max_7cf53 6 = .ok (.goto 4, 3) := by decide +kernel
theorem dJ9_max_7cf53_9 : decode cJ9_max_7cf53 9 = .ok (.iload_n 1, 1) := by decide +kernel
theorem dJ9_max_7cf53_10 : decode cJ9_max_7cf53 10 = .ok (.ireturn, 1) := by decide +kernel
theorem dJ9_max_f86c9_0 : decode cJ9_max_f86c9 0 = .ok (.lload_n 0, 1) := by decide +kernel
theorem dJ9_max_f86c9_1 : decode cJ9_max_f86c9 1 = .ok (.lload_n 2, 1) := by decide +kernel
theorem dJ9_max_f86c9_2 : decode cJ9_max_f86c9 2 = .ok (.lcmp, 1) := by decide +kernel
theorem dJ9_max_f86c9_3 : decode cJ9_max_f86c9 3 = .ok (.ifCond .lt 7, 3) := by decide +kernel
theorem dJ9_max_f86c9_6 : decode cJ9_max_f86c9 6 = .ok (.lload_n 0, 1) := by decide +kernel
theorem dJ9_max_f86c9_7 : decode cJ9_max_f86c9 7 = .ok (.goto 4, 3) := by decide +kernel
theorem dJ9_max_f86c9_10 : decode cJ9_max_f86c9 10 = .ok (.lload_n 2, 1) := by decide +kernel
theorem dJ9_max_f86c9_11 : decode cJ9_max_f86c9 11 = .ok (.lreturn, 1) := by decide +kernel
theorem dJ9_min_7cf53_0 : decode cJ9_min_7cf53 0 = .ok (.iload_n 0, 1) := by decide +kernel
theorem dJ9_min_7cf53_1 : decode cJ9_min_7cf53 1 = .ok (.iload_n 1, 1) := by decide +kernel
theorem dJ9_min_7cf53_2 : decode cJ9_min_7cf53 2 = .ok (.if_icmp .gt 7, 3) := by decide +kernel
theorem dJ9_min_7cf53_5 : decode cJ9_min_7cf53 5 = .ok (.iload_n 0, 1) := by decide +kernel
theorem dJ9_min_7cf53_6 : decode cJ9_min_7cf53 6 = .ok (.goto 4, 3) := by decide +kernel
theorem dJ9_min_7cf53_9 : decode cJ9_min_7cf53 9 = .ok (.iload_n 1, 1) := by decide +kernel
theorem dJ9_min_7cf53_10 : decode cJ9_min_7cf53 10 = .ok (.ireturn, 1) := by decide +kernel
theorem dJ0_length_8abf5_0 : decode cJ0_length_8abf5 0 = .ok (.aload_n 0, 1) := by decide +kernel
theorem dJ0_length_8abf5_1 : decode cJ0_length_8abf5 1 = .ok (.getfield 9, 3) := by decide +kernel
theorem dJ0_length_8abf5_4 : decode cJ0_length_8abf5 4 = .ok (.arraylength, 1) := by decide +kernel
theorem dJ0_length_8abf5_5 : decode cJ0_length_8abf5 5 = .ok (.aload_n 0, 1) := by decide +kernel
theorem dJ0_length_8abf5_6 : decode cJ0_length_8abf5 6 = .ok (.invokevirtual 335, 3) := by decide +kernel
theorem dJ0_length_8abf5_9 : decode cJ0_length_8abf5 9 = .ok (.ishr, 1) := by decide +kernel
theorem dJ0_length_8abf5_10 : decode cJ0_length_8abf5 10 = .ok (.ireturn, 1) := by decide +kernel
theorem dJ0_charAt_5068e_0 : decode cJ0_charAt_5068e 0 = .ok (.aload_n 0, 1) := by decide +kernel
theorem dJ0_charAt_5068e_1 : decode cJ0_charAt_5068e 1 = .ok (.invokevirtual 492, 3) := by decide +kernel
theorem dJ0_charAt_5068e_4 : decode cJ0_charAt_5068e 4 = .ok (.ifCond .eq 12, 3) := by decide +kernel
theorem dJ0_charAt_5068e_7 : decode cJ0_charAt_5068e 7 = .ok (.aload_n 0, 1) := by decide +kernel
theorem dJ0_charAt_5068e_8 : decode cJ0_charAt_5068e 8 = .ok (.getfield 9, 3) := by decide +kernel
theorem dJ0_charAt_5068e_11 : decode cJ0_charAt_5068e 11 = .ok (.iload_n 1, 1) := by decide +kernel
theorem dJ0_charAt_5068e_12 : decode cJ0_charAt_5068e 12 = .ok (.invokestatic 495, 3) := by decide +kernel
theorem dJ0_charAt_5068e_15 : decode cJ0_charAt_5068e 15 = .ok (.ireturn, 1) := by decide +kernel
theorem dJ0_charAt_5068e_16 : decode cJ0_charAt_5068e 16 = .ok (.aload_n 0, 1) := by decide +kernel
theorem dJ0_charAt_5068e_17 : decode cJ0_charAt_5068e 17 = .ok (.getfield 9, 3) := by decide +kernel
theorem dJ0_charAt_5068e_20 : decode cJ0_charAt_5068e 20 = .ok (.iload_n 1, 1) := by decide +kernel
theorem dJ0_charAt_5068e_21 : decode cJ0_charAt_5068e 21 = .ok (.invokestatic 498, 3) := by decide +kernel
theorem dJ0_charAt_5068e_24 : decode cJ0_charAt_5068e 24 = .ok (.ireturn, 1) := by decide +kernel
theorem dJ0_coder_7d493_0 : decode cJ0_coder_7d493 0 = .ok (.getstatic 38, 3) := by decide +kernel
theorem dJ0_coder_7d493_3 : decode cJ0_coder_7d493 3 = .ok (.ifCond .eq 10, 3) := by decide +kernel
theorem dJ0_coder_7d493_6 : decode cJ0_coder_7d493 6 = .ok (.aload_n 0, 1) := by decide +kernel
theorem dJ0_coder_7d493_7 : decode cJ0_coder_7d493 7 = .ok (.getfield 15, 3) := by decide +kernel
theorem dJ0_coder_7d493_10 : decode cJ0_coder_7d493 10 = .ok (.goto 4, 3) := by decide +kernel
theorem dJ0_coder_7d493_13 : decode cJ0_coder_7d493 13 = .ok (.iconst 1, 1) := by decide +kernel
theorem dJ0_coder_7d493_14 : decode cJ0_coder_7d493 14 = .ok (.ireturn, 1) := by decide +kernel
theorem dJ0_isLatin1_aae02_0 : decode cJ0_isLatin1_aae02 0 = .ok (.getstatic 38, 3) := by decide +kernel
theorem dJ0_isLatin1_aae02_3 : decode cJ0_isLatin1_aae02 3 = .ok (.ifCond .eq 14, 3) := by decide +kernel
theorem dJ0_isLatin1_aae02_6 : decode cJ0_isLatin1_aae02 6 = .ok (.aload_n 0, 1) := by decide +kernel
theorem dJ0_isLatin1_aae02_7 : decode cJ0_isLatin1_aae02 7 = .ok (.getfield 15, 3) := by decide +kernel
theorem dJ0_isLatin1_aae02_10 : decode cJ0_isLatin1_aae02 10 = .ok (.ifCond .ne 7, 3) := by decide +kernel
theorem dJ0_isLatin1_aae02_13 : decode cJ0_isLatin1_aae02 13 = .ok (.iconst 1, 1) := by decide +kernel
theorem dJ0_isLatin1_aae02_14 : decode cJ0_isLatin1_aae02 14 = .ok (.goto 4, 3) := by decide +kernel
theorem dJ0_isLatin1_aae02_17 : decode cJ0_isLatin1_aae02 17 = .ok (.iconst 0, 1) := by decide +kernel
theorem dJ0_isLatin1_aae02_18 : decode cJ0_isLatin1_aae02 18 = .ok (.ireturn, 1) := by decide +kernel
theorem dJ0_checkIndex_df160_0 : decode cJ0_checkIndex_df160 0 = .ok (.iload_n 0, 1) := by decide +kernel
theorem dJ0_checkIndex_df160_1 : decode cJ0_checkIndex_df160 1 = .ok (.iload_n 1, 1) := by decide +kernel
theorem dJ0_checkIndex_df160_2 : decode cJ0_checkIndex_df160 2 = .ok (.getstatic 1053, 3) := by decide +kernel
theorem dJ0_checkIndex_df160_5 : decode cJ0_checkIndex_df160 5 = .ok (.invokestatic 1059, 3) := by decide +kernel
theorem dJ0_checkIndex_df160_8 : decode cJ0_checkIndex_df160 8 = .ok (.pop, 1) := by decide +kernel
theorem dJ0_checkIndex_df160_9 : decode cJ0_checkIndex_df160 9 = .ok (.return_, 1) := by decide +kernel
theorem dJ1_charAt_3b067_0 : decode cJ1_charAt_3b067 0 = .ok (.iload_n 1, 1) := by decide +kernel
theorem dJ1_charAt_3b067_1 : decode cJ1_charAt_3b067 1 = .ok (.aload_n 0, 1) := by decide +kernel
theorem dJ1_charAt_3b067_2 : decode cJ1_charAt_3b067 2 = .ok (.arraylength, 1) := by decide +kernel
theorem dJ1_charAt_3b067_3 : decode cJ1_charAt_3b067 3 = .ok (.invokestatic 9, 3) := by decide +kernel
theorem dJ1_charAt_3b067_6 : decode cJ1_charAt_3b067 6 = .ok (.aload_n 0, 1) := by decide +kernel
theorem dJ1_charAt_3b067_7 : decode cJ1_charAt_3b067 7 = .ok (.iload_n 1, 1) := by decide +kernel
theorem dJ1_charAt_3b067_8 : decode cJ1_charAt_3b067 8 = .ok (.baload, 1) := by decide +kernel
theorem dJ1_charAt_3b067_9 : decode cJ1_charAt_3b067 9 = .ok (.sipush 255, 3) := by decide +kernel
theorem dJ1_charAt_3b067_12 : decode cJ1_charAt_3b067 12 = .ok (.iand, 1) := by decide +kernel
theorem dJ1_charAt_3b067_13 : decode cJ1_charAt_3b067 13 = .ok (.i2c, 1) := by decide +kernel
theorem dJ1_charAt_3b067_14 : decode cJ1_charAt_3b067 14 = .ok (.ireturn, 1) := by decide +kernel
theorem dJ2_getChar_3b067_0 : decode cJ2_getChar_3b067 0 = .ok (.getstatic 44, 3) := by decide +kernel
theorem dJ2_getChar_3b067_3 : decode cJ2_getChar_3b067 3 = .ok (.ifCond .ne 25, 3) := by decide +kernel
theorem dJ2_getChar_3b067_6 : decode cJ2_getChar_3b067 6 = .ok (.iload_n 1, 1) := by decide +kernel
theorem dJ2_getChar_3b067_7 : decode cJ2_getChar_3b067 7 = .ok (.ifCond .lt 11, 3) := by decide +kernel
theorem dJ2_getChar_3b067_10 : decode cJ2_getChar_3b067 10 = .ok (.iload_n 1, 1) := by decide +kernel
theorem dJ2_getChar_3b067_11 : decode cJ2_getChar_3b067 11 = .ok (.aload_n 0, 1) := by decide +kernel
theorem dJ2_getChar_3b067_12 : decode cJ2_getChar_3b067 12 = .ok (.invokestatic 48, 3) := by decide +kernel
theorem dJ2_getChar_3b067_15 : decode cJ2_getChar_3b067 15 = .ok (.if_icmp .lt 13, 3) := by decide +kernel
theorem dJ2_getChar_3b067_18 : decode cJ2_getChar_3b067 18 = .ok (.new 52, 3) := by decide +kernel
theorem dJ2_getChar_3b067_21 : decode cJ2_getChar_3b067 21 = .ok (.dup, 1) := by decide +kernel
theorem dJ2_getChar_3b067_22 : decode cJ2_getChar_3b067 22 = .ok (.ldc 54, 2) := by decide +kernel
theorem dJ2_getChar_3b067_24 : decode cJ2_getChar_3b067 24 = .ok (.invokespecial 56, 3) := by decide +kernel
theorem dJ2_getChar_3b067_27 : decode cJ2_getChar_3b067 27 = .ok (.athrow, 1) := by decide +kernel
theorem dJ2_getChar_3b067_28 : decode cJ2_getChar_3b067 28 = .ok (.iload_n 1, 1) := by decide +kernel
theorem dJ2_getChar_3b067_29 : decode cJ2_getChar_3b067 29 = .ok (.iconst 1, 1) := by decide +kernel
theorem dJ2_getChar_3b067_30 : decode cJ2_getChar_3b067 30 = .ok (.ishl, 1) := by decide +kernel
theorem dJ2_getChar_3b067_31 : decode cJ2_getChar_3b067 31 = .ok (.istore_n 1, 1) := by decide +kernel
theorem dJ2_getChar_3b067_32 : decode cJ2_getChar_3b067 32 = .ok (.aload_n 0, 1) := by decide +kernel
theorem dJ2_getChar_3b067_33 : decode cJ2_getChar_3b067 33 = .ok (.iload_n 1, 1) := by decide +kernel
theorem dJ2_getChar_3b067_34 : decode cJ2_getChar_3b067 34 = .ok (.iinc 1 1, 3) := by decide +kernel
theorem dJ2_getChar_3b067_37 : decode cJ2_getChar_3b067 37 = .ok (.baload, 1) := by decide +kernel
theorem dJ2_getChar_3b067_38 : decode cJ2_getChar_3b067 38 = .ok (.sipush 255, 3) := by decide +kernel
theorem dJ2_getChar_3b067_41 : decode cJ2_getChar_3b067 41 = .ok (.iand, 1) := by decide +kernel
theorem dJ2_getChar_3b067_42 : decode cJ2_getChar_3b067 42 = .ok (.getstatic 59, 3) := by decide +kernel
theorem dJ2_getChar_3b067_45 : decode cJ2_getChar_3b067 45 = .ok (.ishl, 1) := by decide +kernel
theorem dJ2_getChar_3b067_46 : decode cJ2_getChar_3b067 46 = .ok (.aload_n 0, 1) := by decide +kernel
theorem dJ2_getChar_3b067_47 : decode cJ2_getChar_3b067 47 = .ok (.iload_n 1, 1) := by decide +kernel
theorem dJ2_getChar_3b067_48 : decode cJ2_getChar_3b067 48 = .ok (.baload, 1) := by decide +kernel
theorem dJ2_getChar_3b067_49 : decode cJ2_getChar_3b067 49 = .ok (.sipush 255, 3) := by decide +kernel
theorem dJ2_getChar_3b067_52 : decode cJ2_getChar_3b067 52 = .ok (.iand, 1) := by decide +kernel
theorem dJ2_getChar_3b067_53 : decode cJ2_getChar_3b067 53 = .ok (.getstatic 63, 3) := by decide +kernel
theorem dJ2_getChar_3b067_56 : decode cJ2_getChar_3b067 56 = .ok (.ishl, 1) := by decide +kernel
theorem dJ2_getChar_3b067_57 : decode cJ2_getChar_3b067 57 = .ok (.ior, 1) := by decide +kernel
theorem dJ2_getChar_3b067_58 : decode cJ2_getChar_3b067 58 = .ok (.i2c, 1) := by decide +kernel
theorem dJ2_getChar_3b067_59 : decode cJ2_getChar_3b067 59 = .ok (.ireturn, 1) := by decide +kernel
theorem dJ2_length_9d52b_0 : decode cJ2_length_9d52b 0 = .ok (.aload_n 0, 1) := by decide +kernel
theorem dJ2_length_9d52b_1 : decode cJ2_length_9d52b 1 = .ok (.arraylength, 1) := by decide +kernel
theorem dJ2_length_9d52b_2 : decode cJ2_length_9d52b 2 = .ok (.iconst 1, 1) := by decide +kernel
theorem dJ2_length_9d52b_3 : decode cJ2_length_9d52b 3 = .ok (.ishr, 1) := by decide +kernel
theorem dJ2_length_9d52b_4 : decode cJ2_length_9d52b 4 = .ok (.ireturn, 1) := by decide +kernel
theorem dJ2_charAt_3b067_0 : decode cJ2_charAt_3b067 0 = .ok (.iload_n 1, 1) := by decide +kernel
theorem dJ2_charAt_3b067_1 : decode cJ2_charAt_3b067 1 = .ok (.aload_n 0, 1) := by decide +kernel
theorem dJ2_charAt_3b067_2 : decode cJ2_charAt_3b067 2 = .ok (.invokestatic 67, 3) := by decide +kernel
theorem dJ2_charAt_3b067_5 : decode cJ2_charAt_3b067 5 = .ok (.aload_n 0, 1) := by decide +kernel
theorem dJ2_charAt_3b067_6 : decode cJ2_charAt_3b067 6 = .ok (.iload_n 1, 1) := by decide +kernel
theorem dJ2_charAt_3b067_7 : decode cJ2_charAt_3b067 7 = .ok (.invokestatic 71, 3) := by decide +kernel
theorem dJ2_charAt_3b067_10 : decode cJ2_charAt_3b067 10 = .ok (.ireturn, 1) := by decide +kernel
theorem dJ2_checkIndex_2214a_0 : decode cJ2_checkIndex_2214a 0 = .ok (.iload_n 0, 1) := by decide +kernel
theorem dJ2_checkIndex_2214a_1 : decode cJ2_checkIndex_2214a 1 = .ok (.aload_n 1, 1) := by decide +kernel
theorem dJ2_checkIndex_2214a_2 : decode cJ2_checkIndex_2214a 2 = .ok (.invokestatic 48, 3) := by decide +kernel
theorem dJ2_checkIndex_2214a_5 : decode cJ2_checkIndex_2214a 5 = .ok (.invokestatic 414, 3) := by decide +kernel
theorem dJ2_checkIndex_2214a_8 : decode cJ2_checkIndex_2214a 8 = .ok (.return_, 1) := by decide +kernel
theorem dJ3_checkIndex_8e157_0 : decode cJ3_checkIndex_8e157 0 = .ok (.iload_n 0, 1) := by decide +kernel
theorem dJ3_checkIndex_8e157_1 : decode cJ3_checkIndex_8e157 1 = .ok (.ifCond .lt 8, 3) := by decide +kernel
theorem dJ3_checkIndex_8e157_4 : decode cJ3_checkIndex_8e157 4 = .ok (.iload_n 0, 1) := by decide +kernel
theorem dJ3_checkIndex_8e157_5 : decode cJ3_checkIndex_8e157 5 = .ok (.iload_n 1, 1) := by decide +kernel
theorem dJ3_checkIndex_8e157_6 : decode cJ3_checkIndex_8e157 6 = .ok (.if_icmp .lt 10, 3) := by decide +kernel
theorem dJ3_checkIndex_8e157_9 : decode cJ3_checkIndex_8e157 9 = .ok (.aload_n 2, 1) := by decide +kernel
theorem dJ3_checkIndex_8e157_10 : decode cJ3_checkIndex_8e157 10 = .ok (.iload_n 0, 1) := by decide +kernel
theorem dJ3_checkIndex_8e157_11 : decode cJ3_checkIndex_8e157 11 = .ok (.iload_n 1, 1) := by decide +kernel
theorem dJ3_checkIndex_8e157_12 : decode cJ3_checkIndex_8e157 12 = .ok (.invokestatic 95, 3) := by decide +kernel
theorem dJ3_checkIndex_8e157_15 : decode cJ3_checkIndex_8e157 15 = .ok (.athrow, 1) := by decide +kernel
theorem dJ3_checkIndex_8e157_16 : decode cJ3_checkIndex_8e157 16 = .ok (.iload_n 0, 1) := by decide +kernel
theorem dJ3_checkIndex_8e157_17 : decode cJ3_checkIndex_8e157 17 = .ok (.ireturn, 1) := by decide +kernel
end
section
theorem dX10_init_0 : decode cX10_init 0 = .ok (.aload_n 0, 1) := by decide +kernel
theorem dX10_init_1 : decode cX10_init 1 = .ok (.invokespecial 1, 3) := by decide +kernel
theorem dX10_init_4 : decode cX10_init 4 = .ok (.aload_n 0, 1) := by decide +kernel
theorem dX10_init_5 : decode cX10_init 5 = .ok (.bipush 12, 2) := by decide +kernel
theorem dX10_init_7 : decode cX10_init 7 = .ok (.newarray .int, 2) := by decide +kernel
theorem dX10_init_9 : decode cX10_init 9 = .ok (.putfield 7, 3) := by decide +kernel
theorem dX10_init_12 : decode cX10_init 12 = .ok (.aload_n 0, 1) := by decide +kernel
theorem dX10_init_13 : decode cX10_init 13 = .ok (.bipush 12, 2) := by decide +kernel
theorem dX10_init_15 : decode cX10_init 15 = .ok (.newarray .int, 2) := by decide +kernel
theorem dX10_init_17 : decode cX10_init 17 = .ok (.putfield 13, 3) := by decide +kernel
theorem dX10_init_20 : decode cX10_init 20 = .ok (.aload_n 0, 1) := by decide +kernel
theorem dX10_init_21 : decode cX10_init 21 = .ok (.bipush 12, 2) := by decide +kernel
theorem dX10_init_23 : decode cX10_init 23 = .ok (.newarray .int, 2) := by decide +kernel
theorem dX10_init_25 : decode cX10_init 25 = .ok (.putfield 16, 3) := by decide +kernel
theorem dX10_init_28 : decode cX10_init 28 = .ok (.aload_n 0, 1) := by decide +kernel
theorem dX10_init_29 : decode cX10_init 29 = .ok (.bipush 12, 2) := by decide +kernel
theorem dX10_init_31 : decode cX10_init 31 = .ok (.newarray .int, 2) := by decide +kernel
theorem dX10_init_33 : decode cX10_init 33 = .ok (.putfield 19, 3) := by decide +kernel
theorem dX10_init_36 : decode cX10_init 36 = .ok (.aload_n 0, 1) := by decide +kernel
theorem dX10_init_37 : decode cX10_init 37 = .ok (.bipush 12, 2) := by decide +kernel
theorem dX10_init_39 : decode cX10_init 39 = .ok (.newarray .int, 2) := by decide +kernel
theorem dX10_init_41 : decode cX10_init 41 = .ok (.putfield 22, 3) := by decide +kernel
theorem dX10_init_44 : decode cX10_init 44 = .ok (.aload_n 0, 1) := by decide +kernel
theorem dX10_init_45 : decode cX10_init 45 = .ok (.bipush 12, 2) := by decide +kernel
theorem dX10_init_47 : decode cX10_init 47 = .ok (.newarray .int, 2) := by decide +kernel
theorem dX10_init_49 : decode cX10_init 49 = .ok (.putfield 25, 3) := by decide +kernel
theorem dX10_init_52 : decode cX10_init 52 = .ok (.aload_n 0, 1) := by decide +kernel
theorem dX10_init_53 : decode cX10_init 53 = .ok (.bipush 12, 2) := by decide +kernel
theorem dX10_init_55 : decode cX10_init 55 = .ok (.newarray .boolean, 2) := by decide +kernel
theorem dX10_init_57 : decode cX10_init 57 = .ok (.putfield 28, 3) := by decide +kernel
theorem dX10_init_60 : decode cX10_init 60 = .ok (.aload_n 0, 1) := by decide +kernel
theorem dX10_init_61 : decode cX10_init 61 = .ok (.bipush 12, 2) := by decide +kernel
theorem dX10_init_63 : decode cX10_init 63 = .ok (.newarray .boolean, 2) := by decide +kernel
theorem dX10_init_65 : decode cX10_init 65 = .ok (.putfield 32, 3) := by decide +kernel
theorem dX10_init_68 : decode cX10_init 68 = .ok (.aload_n 0, 1) := by decide +kernel
theorem dX10_init_69 : decode cX10_init 69 = .ok (.bipush 36, 2) := by decide +kernel
theorem dX10_init_71 : decode cX10_init 71 = .ok (.newarray .boolean, 2) := by decide +kernel
theorem dX10_init_73 : decode cX10_init 73 = .ok (.putfield 35, 3) := by decide +kernel
theorem dX10_init_76 : decode cX10_init 76 = .ok (.aload_n 0, 1) := by decide +kernel
theorem dX10_init_77 : decode cX10_init 77 = .ok (.bipush 36, 2) := by decide +kernel
theorem dX10_init_79 : decode cX10_init 79 = .ok (.newarray .int, 2) := by decide +kernel
theorem dX10_init_81 : decode cX10_init 81 = .ok (.putfield 38, 3) := by decide +kernel
theorem dX10_init_84 : decode cX10_init 84 = .ok (.aload_n 0, 1) := by decide +kernel
theorem dX10_init_85 : decode cX10_init 85 = .ok (.bipush 36, 2) := by decide +kernel
theorem dX10_init_87 : decode cX10_init 87 = .ok (.newarray .int, 2) := by decide +kernel
theorem dX10_init_89 : decode cX10_init 89 = .ok (.putfield 41, 3) := by decide +kernel
theorem dX10_init_92 : decode cX10_init 92 = .ok (.aload_n 0, 1) := by decide +kernel
theorem dX10_init_93 : decode cX10_init 93 = .ok (.bipush 100, 2) := by decide +kernel
theorem dX10_init_95 : decode cX10_init 95 = .ok (.newarray .int, 2) := by decide +kernel
theorem dX10_init_97 : decode cX10_init 97 = .ok (.putfield 44, 3) := by decide +kernel
theorem dX10_init_100 : decode cX10_init 100 = .ok (.aload_n 0, 1) := by decide +kernel
theorem dX10_init_101 : decode cX10_init 101 = .ok (.iconst (-1), 1) := by decide +kernel
theorem dX10_init_102 : decode cX10_init 102 = .ok (.putfield 47, 3) := by decide +kernel
theorem dX10_init_105 : decode cX10_init 105 = .ok (.aload_n 0, 1) := by decide +kernel
theorem dX10_init_106 : decode cX10_init 106 = .ok (.bipush 48, 2) := by decide +kernel
theorem dX10_init_108 : decode cX10_init 108 = .ok (.newarray .int, 2) := by decide +kernel
theorem dX10_init_110 : decode cX10_init 110 = .ok (.putfield 51, 3) := by decide +kernel
theorem dX10_init_113 : decode cX10_init 113 = .ok (.aload_n 0, 1) := by decide +kernel
theorem dX10_init_114 : decode cX10_init 114 = .ok (.bipush 8, 2) := by decide +kernel
theorem dX10_init_116 : decode cX10_init 116 = .ok (.newarray .int, 2) := by decide +kernel
theorem dX10_init_118 : decode cX10_init 118 = .ok (.putfield 54, 3) := by decide +kernel
theorem dX10_init_121 : decode cX10_init 121 = .ok (.aload_n 0, 1) := by decide +kernel
theorem dX10_init_122 : decode cX10_init 122 = .ok (.iconst 2, 1) := by decide +kernel
theorem dX10_init_123 : decode cX10_init 123 = .ok (.newarray .int, 2) := by decide +kernel
theorem dX10_init_125 : decode cX10_init 125 = .ok (.putfield 57, 3) := by decide +kernel
theorem dX10_init_128 : decode cX10_init 128 = .ok (.aload_n 0, 1) := by decide +kernel
theorem dX10_init_129 : decode cX10_init 129 = .ok (.bipush 12, 2) := by decide +kernel
theorem dX10_init_131 : decode cX10_init 131 = .ok (.newarray .long, 2) := by decide +kernel
theorem dX10_init_133 : decode cX10_init 133 = .ok (.putfield 60, 3) := by decide +kernel
theorem dX10_init_136 : decode cX10_init 136 = .ok (.aload_n 0, 1) := by decide +kernel
theorem dX10_init_137 : decode cX10_init 137 = .ok (.bipush 12, 2) := by decide +kernel
theorem dX10_init_139 : decode cX10_init 139 = .ok (.newarray .long, 2) := by decide +kernel
theorem dX10_init_141 : decode cX10_init 141 = .ok (.putfield 64, 3) := by decide +kernel
theorem dX10_init_144 : decode cX10_init 144 = .ok (.aload_n 0, 1) := by decide +kernel
theorem dX10_init_145 : decode cX10_init 145 = .ok (.bipush 30, 2) := by decide +kernel
theorem dX10_init_147 : decode cX10_init 147 = .ok (.newarray .int, 2) := by decide +kernel
theorem dX10_init_149 : decode cX10_init 149 = .ok (.putfield 67, 3) := by decide +kernel
theorem dX10_init_152 : decode cX10_init 152 = .ok (.aload_n 0, 1) := by decide +kernel
theorem dX10_init_153 : decode cX10_init 153 = .ok (.bipush 19, 2) := by decide +kernel
theorem dX10_init_155 : decode cX10_init 155 = .ok (.newarray .long, 2) := by decide +kernel
theorem dX10_init_157 : decode cX10_init 157 = .ok (.putfield 70, 3) := by decide +kernel
theorem dX10_init_160 : decode cX10_init 160 = .ok (.aload_n 0, 1) := by decide +kernel
theorem dX10_init_161 : decode cX10_init 161 = .ok (.bipush 19, 2) := by decide +kernel
theorem dX10_init_163 : decode cX10_init 163 = .ok (.newarray .long, 2) := by decide +kernel
theorem dX10_init_165 : decode cX10_init 165 = .ok (.putfield 73, 3) := by decide +kernel
theorem dX10_init_168 : decode cX10_init 168 = .ok (.aload_n 0, 1) := by decide +kernel
theorem dX10_init_169 : decode cX10_init 169 = .ok (.bipush 24, 2) := by decide +kernel
theorem dX10_init_171 : decode cX10_init 171 = .ok (.newarray .int, 2) := by decide +kernel
theorem dX10_init_173 : decode cX10_init 173 = .ok (.putfield 76, 3) := by decide +kernel
theorem dX10_init_176 : decode cX10_init 176 = .ok (.aload_n 0, 1) := by decide +kernel
theorem dX10_init_177 : decode cX10_init 177 = .ok (.bipush 24, 2) := by decide +kernel
theorem dX10_init_179 : decode cX10_init 179 = .ok (.newarray .int, 2) := by decide +kernel
theorem dX10_init_181 : decode cX10_init 181 = .ok (.putfield 79, 3) := by decide +kernel
theorem dX10_init_184 : decode cX10_init 184 = .ok (.aload_n 0, 1) := by decide +kernel
theorem dX10_init_185 : decode cX10_init 185 = .ok (.bipush 24, 2) := by decide +kernel
theorem dX10_init_187 : decode cX10_init 187 = .ok (.newarray .int, 2) := by decide +kernel
theorem dX10_init_189 : decode cX10_init 189 = .ok (.putfield 82, 3) := by decide +kernel
theorem dX10_init_192 : decode cX10_init 192 = .ok (.aload_n 0, 1) := by decide +kernel
theorem dX10_init_193 : decode cX10_init 193 = .ok (.bipush 24, 2) := by decide +kernel
theorem dX10_init_195 : decode cX10_init 195 = .ok (.newarray .boolean, 2) := by decide +kernel
theorem dX10_init_197 : decode cX10_init 197 = .ok (.putfield 85, 3) := by decide +kernel
theorem dX10_init_200 : decode cX10_init 200 = .ok (.aload_n 0, 1) := by decide +kernel
theorem dX10_init_201 : decode cX10_init 201 = .ok (.bipush 24, 2) := by decide +kernel
theorem dX10_init_203 : decode cX10_init 203 = .ok (.newarray .int, 2) := by decide +kernel
theorem dX10_init_205 : decode cX10_init 205 = .ok (.putfield 88, 3) := by decide +kernel
theorem dX10_init_208 : decode cX10_init 208 = .ok (.aload_n 0, 1) := by decide +kernel
theorem dX10_init_209 : decode cX10_init 209 = .ok (.sipush 960, 3) := by decide +kernel
theorem dX10_init_212 : decode cX10_init 212 = .ok (.newarray .int, 2) := by decide +kernel
theorem dX10_init_214 : decode cX10_init 214 = .ok (.putfield 91, 3) := by decide +kernel
theorem dX10_init_217 : decode cX10_init 217 = .ok (.aload_n 0, 1) := by decide +kernel
theorem dX10_init_218 : decode cX10_init 218 = .ok (.iconst 5, 1) := by decide +kernel
theorem dX10_init_219 : decode cX10_init 219 = .ok (.newarray .int, 2) := by decide +kernel
theorem dX10_init_221 : decode cX10_init 221 = .ok (.putfield 94, 3) := by decide +kernel
theorem dX10_init_224 : decode cX10_init 224 = .ok (.aload_n 0, 1) := by decide +kernel
theorem dX10_init_225 : decode cX10_init 225 = .ok (.bipush 6, 2) := by decide +kernel
theorem dX10_init_227 : decode cX10_init 227 = .ok (.newarray .int, 2) := by decide +kernel
theorem dX10_init_229 : decode cX10_init 229 = .ok (.putfield 97, 3) := by decide +kernel
theorem dX10_init_232 : decode cX10_init 232 = .ok (.aload_n 0, 1) := by decide +kernel
theorem dX10_init_233 : decode cX10_init 233 = .ok (.bipush 6, 2) := by decide +kernel
theorem dX10_init_235 : decode cX10_init 235 = .ok (.newarray .int, 2) := by decide +kernel
theorem dX10_init_237 : decode cX10_init 237 = .ok (.putfield 100, 3) := by decide +kernel
theorem dX10_init_240 : decode cX10_init 240 = .ok (.iconst 0, 1) := by decide +kernel
theorem dX10_init_241 : decode cX10_init 241 = .ok (.istore_n 1, 1) := by decide +kernel
theorem dX10_init_242 : decode cX10_init 242 = .ok (.iload_n 1, 1) := by decide +kernel
theorem dX10_init_243 : decode cX10_init 243 = .ok (.bipush 6, 2) := by decide +kernel
theorem dX10_init_245 : decode cX10_init 245 = .ok (.if_icmp .ge 38, 3) := by decide +kernel
theorem dX10_init_248 : decode cX10_init 248 = .ok (.iconst 0, 1) := by decide +kernel
theorem dX10_init_249 : decode cX10_init 249 = .ok (.istore_n 2, 1) := by decide +kernel
theorem dX10_init_250 : decode cX10_init 250 = .ok (.iload_n 2, 1) := by decide +kernel
theorem dX10_init_251 : decode cX10_init 251 = .ok (.bipush 8, 2) := by decide +kernel
theorem dX10_init_253 : decode cX10_init 253 = .ok (.if_icmp .ge 24, 3) := by decide +kernel
theorem dX10_init_256 : decode cX10_init 256 = .ok (.aload_n 0, 1) := by decide +kernel
theorem dX10_init_257 : decode cX10_init 257 = .ok (.getfield 51, 3) := by decide +kernel
theorem dX10_init_260 : decode cX10_init 260 = .ok (.bipush 8, 2) := by decide +kernel
theorem dX10_init_262 : decode cX10_init 262 = .ok (.iload_n 1, 1) := by decide +kernel
theorem dX10_init_263 : decode cX10_init 263 = .ok (.imul, 1) := by decide +kernel
theorem dX10_init_264 : decode cX10_init 264 = .ok (.iload_n 2, 1) := by decide +kernel
theorem dX10_init_265 : decode cX10_init 265 = .ok (.iadd, 1) := by decide +kernel
theorem dX10_init_266 : decode cX10_init 266 = .ok (.iload_n 2, 1) := by decide +kernel
theorem dX10_init_267 : decode cX10_init 267 = .ok (.invokestatic 103, 3) := by decide +kernel
theorem dX10_init_270 : decode cX10_init 270 = .ok (.iastore, 1) := by decide +kernel
theorem dX10_init_271 : decode cX10_init 271 = .ok (.iinc 2 1, 3) := by decide +kernel
theorem dX10_init_274 : decode cX10_init 274 = .ok (.goto (-24), 3) := by decide +kernel
theorem dX10_init_277 : decode cX10_init 277 = .ok (.iinc 1 1, 3) := by decide +kernel
theorem dX10_init_280 : decode cX10_init 280 = .ok (.goto (-38), 3) := by decide +kernel
theorem dX10_init_283 : decode cX10_init 283 = .ok (.iconst 0, 1) := by decide +kernel
theorem dX10_init_284 : decode cX10_init 284 = .ok (.istore_n 1, 1) := by decide +kernel
theorem dX10_init_285 : decode cX10_init 285 = .ok (.iload_n 1, 1) := by decide +kernel
theorem dX10_init_286 : decode cX10_init 286 = .ok (.iconst 2, 1) := by decide +kernel
theorem dX10_init_287 : decode cX10_init 287 = .ok (.if_icmp .ge 51, 3) := by decide +kernel
theorem dX10_init_290 : decode cX10_init 290 = .ok (.aload_n 0, 1) := by decide +kernel
theorem dX10_init_291 : decode cX10_init 291 = .ok (.iload_n 1, 1) := by decide +kernel
theorem dX10_init_292 : decode cX10_init 292 = .ok (.iconst 0, 1) := by decide +kernel
theorem dX10_init_293 : decode cX10_init 293 = .ok (.iconst 0, 1) := by decide +kernel
theorem dX10_init_294 : decode cX10_init 294 = .ok (.bipush 10, 2) := by decide +kernel
theorem dX10_init_296 : decode cX10_init 296 = .ok (.bipush 20, 2) := by decide +kernel
theorem dX10_init_298 : decode cX10_init 298 = .ok (.bipush 20, 2) := by decide +kernel
theorem dX10_init_300 : decode cX10_init 300 = .ok (.bipush 10, 2) := by decide +kernel
theorem dX10_init_302 : decode cX10_init 302 = .ok (.invokevirtual 107, 3) := by decide +kernel
theorem dX10_init_305 : decode cX10_init 305 = .ok (.aload_n 0, 1) := by decide +kernel
theorem dX10_init_306 : decode cX10_init 306 = .ok (.iload_n 1, 1) := by decide +kernel
theorem dX10_init_307 : decode cX10_init 307 = .ok (.iconst 1, 1) := by decide +kernel
theorem dX10_init_308 : decode cX10_init 308 = .ok (.iconst 0, 1) := by decide +kernel
theorem dX10_init_309 : decode cX10_init 309 = .ok (.iconst 0, 1) := by decide +kernel
theorem dX10_init_310 : decode cX10_init 310 = .ok (.bipush 40, 2) := by decide +kernel
theorem dX10_init_312 : decode cX10_init 312 = .ok (.bipush 20, 2) := by decide +kernel
theorem dX10_init_314 : decode cX10_init 314 = .ok (.iconst 0, 1) := by decide +kernel
theorem dX10_init_315 : decode cX10_init 315 = .ok (.invokevirtual 107, 3) := by decide +kernel
theorem dX10_init_318 : decode cX10_init 318 = .ok (.aload_n 0, 1) := by decide +kernel
theorem dX10_init_319 : decode cX10_init 319 = .ok (.iload_n 1, 1) := by decide +kernel
theorem dX10_init_320 : decode cX10_init 320 = .ok (.iconst 2, 1) := by decide +kernel
theorem dX10_init_321 : decode cX10_init 321 = .ok (.bipush 20, 2) := by decide +kernel
theorem dX10_init_323 : decode cX10_init 323 = .ok (.iconst 0, 1) := by decide +kernel
theorem dX10_init_324 : decode cX10_init 324 = .ok (.bipush 10, 2) := by decide +kernel
theorem dX10_init_326 : decode cX10_init 326 = .ok (.iconst 0, 1) := by decide +kernel
theorem dX10_init_327 : decode cX10_init 327 = .ok (.bipush 30, 2) := by decide +kernel
theorem dX10_init_329 : decode cX10_init 329 = .ok (.invokevirtual 107, 3) := by decide +kernel
theorem dX10_init_332 : decode cX10_init 332 = .ok (.iinc 1 1, 3) := by decide +kernel
theorem dX10_init_335 : decode cX10_init 335 = .ok (.goto (-50), 3) := by decide +kernel
theorem dX10_init_338 : decode cX10_init 338 = .ok (.aload_n 0, 1) := by decide +kernel
theorem dX10_init_339 : decode cX10_init 339 = .ok (.getfield 94, 3) := by decide +kernel
theorem dX10_init_342 : decode cX10_init 342 = .ok (.iconst 0, 1) := by decide +kernel
theorem dX10_init_343 : decode cX10_init 343 = .ok (.iconst 0, 1) := by decide +kernel
theorem dX10_init_344 : decode cX10_init 344 = .ok (.iastore, 1) := by decide +kernel
theorem dX10_init_345 : decode cX10_init 345 = .ok (.aload_n 0, 1) := by decide +kernel
theorem dX10_init_346 : decode cX10_init 346 = .ok (.iconst 1, 1) := by decide +kernel
theorem dX10_init_347 : decode cX10_init 347 = .ok (.putfield 111, 3) := by decide +kernel
theorem dX10_init_350 : decode cX10_init 350 = .ok (.return_, 1) := by decide +kernel
theorem dX10_in_0 : decode cX10_in 0 = .ok (.lload_n 0, 1) := by decide +kernel
theorem dX10_in_1 : decode cX10_in 1 = .ok (.lload_n 2, 1) := by decide +kernel
theorem dX10_in_2 : decode cX10_in 2 = .ok (.lcmp, 1) := by decide +kernel
theorem dX10_in_3 : decode cX10_in 3 = .ok (.ifCond .lt 14, 3) := by decide +kernel
theorem dX10_in_6 : decode cX10_in 6 = .ok (.lload_n 0, 1) := by decide +kernel
theorem dX10_in_7 : decode cX10_in 7 = .ok (.lload 4, 2) := by decide +kernel
theorem dX10_in_9 : decode cX10_in 9 = .ok (.lcmp, 1) := by decide +kernel
theorem dX10_in_10 : decode cX10_in 10 = .ok (.ifCond .gt 7, 3) := by decide +kernel
theorem dX10_in_13 : decode cX10_in 13 = .ok (.iconst 1, 1) := by decide +kernel
theorem dX10_in_14 : decode cX10_in 14 = .ok (.goto 4, 3) := by decide +kernel
theorem dX10_in_17 : decode cX10_in 17 = .ok (.iconst 0, 1) := by decide +kernel
theorem dX10_in_18 : decode cX10_in 18 = .ok (.ireturn, 1) := by decide +kernel
theorem dX10_bit_0 : decode cX10_bit 0 = .ok (.iload_n 0, 1) := by decide +kernel
theorem dX10_bit_1 : decode cX10_bit 1 = .ok (.ifCond .eq 7, 3) := by decide +kernel
theorem dX10_bit_4 : decode cX10_bit 4 = .ok (.iconst 1, 1) := by decide +kernel
theorem dX10_bit_5 : decode cX10_bit 5 = .ok (.goto 4, 3) := by decide +kernel
theorem dX10_bit_8 : decode cX10_bit 8 = .ok (.iconst 0, 1) := by decide +kernel
theorem dX10_bit_9 : decode cX10_bit 9 = .ok (.ireturn, 1) := by decide +kernel
theorem dX10_gcd_0 : decode cX10_gcd 0 = .ok (.lload_n 0, 1) := by decide +kernel
theorem dX10_gcd_1 : decode cX10_gcd 1 = .ok (.lstore 4, 2) := by decide +kernel
theorem dX10_gcd_3 : decode cX10_gcd 3 = .ok (.lload_n 2, 1) := by decide +kernel
theorem dX10_gcd_4 : decode cX10_gcd 4 = .ok (.lstore 6, 2) := by decide +kernel
theorem dX10_gcd_6 : decode cX10_gcd 6 = .ok (.lload 6, 2) := by decide +kernel
theorem dX10_gcd_8 : decode cX10_gcd 8 = .ok (.lconst 0, 1) := by decide +kernel
theorem dX10_gcd_9 : decode cX10_gcd 9 = .ok (.lcmp, 1) := by decide +kernel
theorem dX10_gcd_10 : decode cX10_gcd 10 = .ok (.ifCond .eq 21, 3) := by decide +kernel
theorem dX10_gcd_13 : decode cX10_gcd 13 = .ok (.lload 4, 2) := by decide +kernel
theorem dX10_gcd_15 : decode cX10_gcd 15 = .ok (.lload 6, 2) := by decide +kernel
theorem dX10_gcd_17 : decode cX10_gcd 17 = .ok (.lrem, 1) := by decide +kernel
theorem dX10_gcd_18 : decode cX10_gcd 18 = .ok (.lstore 8, 2) := by decide +kernel
theorem dX10_gcd_20 : decode cX10_gcd 20 = .ok (.lload 6, 2) := by decide +kernel
theorem dX10_gcd_22 : decode cX10_gcd 22 = .ok (.lstore 4, 2) := by decide +kernel
theorem dX10_gcd_24 : decode cX10_gcd 24 = .ok (.lload 8, 2) := by decide +kernel
theorem dX10_gcd_26 : decode cX10_gcd 26 = .ok (.lstore 6, 2) := by decide +kernel
theorem dX10_gcd_28 : decode cX10_gcd 28 = .ok (.goto (-22), 3) := by decide +kernel
theorem dX10_gcd_31 : decode cX10_gcd 31 = .ok (.lload 4, 2) := by decide +kernel
theorem dX10_gcd_33 : decode cX10_gcd 33 = .ok (.lreturn, 1) := by decide +kernel
theorem dX10_noIron_0 : decode cX10_noIron 0 = .ok (.iload_n 1, 1) := by decide +kernel
theorem dX10_noIron_1 : decode cX10_noIron 1 = .ok (.i2l, 1) := by decide +kernel
theorem dX10_noIron_2 : decode cX10_noIron 2 = .ok (.lconst 0, 1) := by decide +kernel
theorem dX10_noIron_3 : decode cX10_noIron 3 = .ok (.aload_n 0, 1) := by decide +kernel
theorem dX10_noIron_4 : decode cX10_noIron 4 = .ok (.getfield 114, 3) := by decide +kernel
theorem dX10_noIron_7 : decode cX10_noIron 7 = .ok (.iconst 1, 1) := by decide +kernel
theorem dX10_noIron_8 : decode cX10_noIron 8 = .ok (.isub, 1) := by decide +kernel
theorem dX10_noIron_9 : decode cX10_noIron 9 = .ok (.i2l, 1) := by decide +kernel
theorem dX10_noIron_10 : decode cX10_noIron 10 = .ok (.invokestatic 117, 3) := by decide +kernel
theorem dX10_noIron_13 : decode cX10_noIron 13 = .ok (.ifCond .ne 7, 3) := by decide +kernel
theorem dX10_noIron_16 : decode cX10_noIron 16 = .ok (.iconst 1, 1) := by decide +kernel
theorem dX10_noIron_17 : decode cX10_noIron 17 = .ok (.goto 4, 3) := by decide +kernel
theorem dX10_noIron_20 : decode cX10_noIron 20 = .ok (.iconst 0, 1) := by decide +kernel
theorem dX10_noIron_21 : decode cX10_noIron 21 = .ok (.ireturn, 1) := by decide +kernel
theorem dX10_isPlace_0 : decode cX10_isPlace 0 = .ok (.iload_n 0, 1) := by decide +kernel
theorem dX10_isPlace_1 : decode cX10_isPlace 1 = .ok (.i2l, 1) := by decide +kernel
theorem dX10_isPlace_2 : decode cX10_isPlace 2 = .ok (.ldc2_w 121, 3) := by decide +kernel
theorem dX10_isPlace_5 : decode cX10_isPlace 5 = .ok (.ldc2_w 123, 3) := by decide +kernel
theorem dX10_isPlace_8 : decode cX10_isPlace 8 = .ok (.invokestatic 117, 3) := by decide +kernel
theorem dX10_isPlace_11 : decode cX10_isPlace 11 = .ok (.ifCond .eq 21, 3) := by decide +kernel
theorem dX10_isPlace_14 : decode cX10_isPlace 14 = .ok (.iload_n 1, 1) := by decide +kernel
theorem dX10_isPlace_15 : decode cX10_isPlace 15 = .ok (.i2l, 1) := by decide +kernel
theorem dX10_isPlace_16 : decode cX10_isPlace 16 = .ok (.ldc2_w 121, 3) := by decide +kernel
theorem dX10_isPlace_19 : decode cX10_isPlace 19 = .ok (.ldc2_w 123, 3) := by decide +kernel
theorem dX10_isPlace_22 : decode cX10_isPlace 22 = .ok (.invokestatic 117, 3) := by decide +kernel
theorem dX10_isPlace_25 : decode cX10_isPlace 25 = .ok (.ifCond .eq 7, 3) := by decide +kernel
theorem dX10_isPlace_28 : decode cX10_isPlace 28 = .ok (.iconst 1, 1) := by decide +kernel
theorem dX10_isPlace_29 : decode cX10_isPlace 29 = .ok (.goto 4, 3) := by decide +kernel
theorem dX10_isPlace_32 : decode cX10_isPlace 32 = .ok (.iconst 0, 1) := by decide +kernel
theorem dX10_isPlace_33 : decode cX10_isPlace 33 = .ok (.ireturn, 1) := by decide +kernel
theorem dX10_rake_0 : decode cX10_rake 0 = .ok (.aload_n 0, 1) := by decide +kernel
theorem dX10_rake_1 : decode cX10_rake 1 = .ok (.getfield 114, 3) := by decide +kernel
theorem dX10_rake_4 : decode cX10_rake 4 = .ok (.istore_n 1, 1) := by decide +kernel
theorem dX10_rake_5 : decode cX10_rake 5 = .ok (.aload_n 0, 1) := by decide +kernel
theorem dX10_rake_6 : decode cX10_rake 6 = .ok (.iconst 0, 1) := by decide +kernel
theorem dX10_rake_7 : decode cX10_rake 7 = .ok (.putfield 114, 3) := by decide +kernel
theorem dX10_rake_10 : decode cX10_rake 10 = .ok (.iload_n 1, 1) := by decide +kernel
theorem dX10_rake_11 : decode cX10_rake 11 = .ok (.ireturn, 1) := by decide +kernel
theorem dX10_forget_0 : decode cX10_forget 0 = .ok (.iconst 0, 1) := by decide +kernel
theorem dX10_forget_1 : decode cX10_forget 1 = .ok (.istore_n 2, 1) := by decide +kernel
theorem dX10_forget_2 : decode cX10_forget 2 = .ok (.iload_n 2, 1) := by decide +kernel
theorem dX10_forget_3 : decode cX10_forget 3 = .ok (.iconst 3, 1) := by decide +kernel
theorem dX10_forget_4 : decode cX10_forget 4 = .ok (.if_icmp .ge 20, 3) := by decide +kernel
theorem dX10_forget_7 : decode cX10_forget 7 = .ok (.aload_n 0, 1) := by decide +kernel
theorem dX10_forget_8 : decode cX10_forget 8 = .ok (.getfield 35, 3) := by decide +kernel
theorem dX10_forget_11 : decode cX10_forget 11 = .ok (.iconst 3, 1) := by decide +kernel
theorem dX10_forget_12 : decode cX10_forget 12 = .ok (.iload_n 1, 1) := by decide +kernel
theorem dX10_forget_13 : decode cX10_forget 13 = .ok (.imul, 1) := by decide +kernel
theorem dX10_forget_14 : decode cX10_forget 14 = .ok (.iload_n 2, 1) := by decide +kernel
theorem dX10_forget_15 : decode cX10_forget 15 = .ok (.iadd, 1) := by decide +kernel
theorem dX10_forget_16 : decode cX10_forget 16 = .ok (.iconst 0, 1) := by decide +kernel
theorem dX10_forget_17 : decode cX10_forget 17 = .ok (.bastore, 1) := by decide +kernel
theorem dX10_forget_18 : decode cX10_forget 18 = .ok (.iinc 2 1, 3) := by decide +kernel
theorem dX10_forget_21 : decode cX10_forget 21 = .ok (.goto (-19), 3) := by decide +kernel
theorem dX10_forget_24 : decode cX10_forget 24 = .ok (.return_, 1) := by decide +kernel
theorem dX10_iron_0 : decode cX10_iron 0 = .ok (.iload_n 1, 1) := by decide +kernel
theorem dX10_iron_1 : decode cX10_iron 1 = .ok (.i2l, 1) := by decide +kernel
theorem dX10_iron_2 : decode cX10_iron 2 = .ok (.lconst 0, 1) := by decide +kernel
theorem dX10_iron_3 : decode cX10_iron 3 = .ok (.lconst 1, 1) := by decide +kernel
theorem dX10_iron_4 : decode cX10_iron 4 = .ok (.invokestatic 117, 3) := by decide +kernel
theorem dX10_iron_7 : decode cX10_iron 7 = .ok (.ifCond .eq 54, 3) := by decide +kernel
theorem dX10_iron_10 : decode cX10_iron 10 = .ok (.iload_n 2, 1) := by decide +kernel
theorem dX10_iron_11 : decode cX10_iron 11 = .ok (.iload_n 3, 1) := by decide +kernel
theorem dX10_iron_12 : decode cX10_iron 12 = .ok (.invokestatic 125, 3) := by decide +kernel
theorem dX10_iron_15 : decode cX10_iron 15 = .ok (.ifCond .eq 46, 3) := by decide +kernel
theorem dX10_iron_18 : decode cX10_iron 18 = .ok (.iload 4, 2) := by decide +kernel
theorem dX10_iron_20 : decode cX10_iron 20 = .ok (.i2l, 1) := by decide +kernel
theorem dX10_iron_21 : decode cX10_iron 21 = .ok (.ldc2_w 129, 3) := by decide +kernel
theorem dX10_iron_24 : decode cX10_iron 24 = .ok (.ldc2_w 131, 3) := by decide +kernel
theorem dX10_iron_27 : decode cX10_iron 27 = .ok (.invokestatic 117, 3) := by decide +kernel
theorem dX10_iron_30 : decode cX10_iron 30 = .ok (.ifCond .eq 31, 3) := by decide +kernel
theorem dX10_iron_33 : decode cX10_iron 33 = .ok (.iload 5, 2) := by decide +kernel
theorem dX10_iron_35 : decode cX10_iron 35 = .ok (.i2l, 1) := by decide +kernel
theorem dX10_iron_36 : decode cX10_iron 36 = .ok (.lconst 1, 1) := by decide +kernel
theorem dX10_iron_37 : decode cX10_iron 37 = .ok (.iload 4, 2) := by decide +kernel
theorem dX10_iron_39 : decode cX10_iron 39 = .ok (.iconst 1, 1) := by decide +kernel
theorem dX10_iron_40 : decode cX10_iron 40 = .ok (.isub, 1) := by decide +kernel
theorem dX10_iron_41 : decode cX10_iron 41 = .ok (.i2l, 1) := by decide +kernel
theorem dX10_iron_42 : decode cX10_iron 42 = .ok (.invokestatic 117, 3) := by decide +kernel
theorem dX10_iron_45 : decode cX10_iron 45 = .ok (.ifCond .eq 16, 3) := by decide +kernel
theorem dX10_iron_48 : decode cX10_iron 48 = .ok (.iload 6, 2) := by decide +kernel
theorem dX10_iron_50 : decode cX10_iron 50 = .ok (.i2l, 1) := by decide +kernel
theorem dX10_iron_51 : decode cX10_iron 51 = .ok (.lconst 0, 1) := by decide +kernel
theorem dX10_iron_52 : decode cX10_iron 52 = .ok (.ldc2_w 133, 3) := by decide +kernel
theorem dX10_iron_55 : decode cX10_iron 55 = .ok (.invokestatic 117, 3) := by decide +kernel
theorem dX10_iron_58 : decode cX10_iron 58 = .ok (.ifCond .ne 7, 3) := by decide +kernel
theorem dX10_iron_61 : decode cX10_iron 61 = .ok (.sipush (-1002), 3) := by decide +kernel
theorem dX10_iron_64 : decode cX10_iron 64 = .ok (.ireturn, 1) := by decide +kernel
theorem dX10_iron_65 : decode cX10_iron 65 = .ok (.aload_n 0, 1) := by decide +kernel
theorem dX10_iron_66 : decode cX10_iron 66 = .ok (.getfield 114, 3) := by decide +kernel
theorem dX10_iron_69 : decode cX10_iron 69 = .ok (.bipush 12, 2) := by decide +kernel
theorem dX10_iron_71 : decode cX10_iron 71 = .ok (.if_icmp .ne 7, 3) := by decide +kernel
theorem dX10_iron_74 : decode cX10_iron 74 = .ok (.sipush (-1004), 3) := by decide +kernel
theorem dX10_iron_77 : decode cX10_iron 77 = .ok (.ireturn, 1) := by decide +kernel
theorem dX10_iron_78 : decode cX10_iron 78 = .ok (.aload_n 0, 1) := by decide +kernel
theorem dX10_iron_79 : decode cX10_iron 79 = .ok (.getfield 7, 3) := by decide +kernel
theorem dX10_iron_82 : decode cX10_iron 82 = .ok (.aload_n 0, 1) := by decide +kernel
theorem dX10_iron_83 : decode cX10_iron 83 = .ok (.getfield 114, 3) := by decide +kernel
theorem dX10_iron_86 : decode cX10_iron 86 = .ok (.iload_n 1, 1) := by decide +kernel
theorem dX10_iron_87 : decode cX10_iron 87 = .ok (.iastore, 1) := by decide +kernel
theorem dX10_iron_88 : decode cX10_iron 88 = .ok (.aload_n 0, 1) := by decide +kernel
theorem dX10_iron_89 : decode cX10_iron 89 = .ok (.getfield 13, 3) := by decide +kernel
theorem dX10_iron_92 : decode cX10_iron 92 = .ok (.aload_n 0, 1) := by decide +kernel
theorem dX10_iron_93 : decode cX10_iron 93 = .ok (.getfield 114, 3) := by decide +kernel
theorem dX10_iron_96 : decode cX10_iron 96 = .ok (.iload_n 2, 1) := by decide +kernel
theorem dX10_iron_97 : decode cX10_iron 97 = .ok (.iastore, 1) := by decide +kernel
theorem dX10_iron_98 : decode cX10_iron 98 = .ok (.aload_n 0, 1) := by decide +kernel
theorem dX10_iron_99 : decode cX10_iron 99 = .ok (.getfield 16, 3) := by decide +kernel
theorem dX10_iron_102 : decode cX10_iron 102 = .ok (.aload_n 0, 1) := by decide +kernel
theorem dX10_iron_103 : decode cX10_iron 103 = .ok (.getfield 114, 3) := by decide +kernel
theorem dX10_iron_106 : decode cX10_iron 106 = .ok (.iload_n 3, 1) := by decide +kernel
theorem dX10_iron_107 : decode cX10_iron 107 = .ok (.iastore, 1) := by decide +kernel
theorem dX10_iron_108 : decode cX10_iron 108 = .ok (.aload_n 0, 1) := by decide +kernel
theorem dX10_iron_109 : decode cX10_iron 109 = .ok (.getfield 19, 3) := by decide +kernel
theorem dX10_iron_112 : decode cX10_iron 112 = .ok (.aload_n 0, 1) := by decide +kernel
theorem dX10_iron_113 : decode cX10_iron 113 = .ok (.getfield 114, 3) := by decide +kernel
theorem dX10_iron_116 : decode cX10_iron 116 = .ok (.iload 4, 2) := by decide +kernel
theorem dX10_iron_118 : decode cX10_iron 118 = .ok (.iastore, 1) := by decide +kernel
theorem dX10_iron_119 : decode cX10_iron 119 = .ok (.aload_n 0, 1) := by decide +kernel
theorem dX10_iron_120 : decode cX10_iron 120 = .ok (.getfield 22, 3) := by decide +kernel
theorem dX10_iron_123 : decode cX10_iron 123 = .ok (.aload_n 0, 1) := by decide +kernel
theorem dX10_iron_124 : decode cX10_iron 124 = .ok (.getfield 114, 3) := by decide +kernel
theorem dX10_iron_127 : decode cX10_iron 127 = .ok (.iload 5, 2) := by decide +kernel
theorem dX10_iron_129 : decode cX10_iron 129 = .ok (.iastore, 1) := by decide +kernel
theorem dX10_iron_130 : decode cX10_iron 130 = .ok (.aload_n 0, 1) := by decide +kernel
theorem dX10_iron_131 : decode cX10_iron 131 = .ok (.getfield 25, 3) := by decide +kernel
theorem dX10_iron_134 : decode cX10_iron 134 = .ok (.aload_n 0, 1) := by decide +kernel
theorem dX10_iron_135 : decode cX10_iron 135 = .ok (.getfield 114, 3) := by decide +kernel
theorem dX10_iron_138 : decode cX10_iron 138 = .ok (.iload 6, 2) := by decide +kernel
theorem dX10_iron_140 : decode cX10_iron 140 = .ok (.iastore, 1) := by decide +kernel
theorem dX10_iron_141 : decode cX10_iron 141 = .ok (.aload_n 0, 1) := by decide +kernel
theorem dX10_iron_142 : decode cX10_iron 142 = .ok (.getfield 28, 3) := by decide +kernel
theorem dX10_iron_145 : decode cX10_iron 145 = .ok (.aload_n 0, 1) := by decide +kernel
theorem dX10_iron_146 : decode cX10_iron 146 = .ok (.getfield 114, 3) := by decide +kernel
theorem dX10_iron_149 : decode cX10_iron 149 = .ok (.iload 7, 2) := by decide +kernel
theorem dX10_iron_151 : decode cX10_iron 151 = .ok (.bastore, 1) := by decide +kernel
theorem dX10_iron_152 : decode cX10_iron 152 = .ok (.aload_n 0, 1) := by decide +kernel
theorem dX10_iron_153 : decode cX10_iron 153 = .ok (.getfield 32, 3) := by decide +kernel
theorem dX10_iron_156 : decode cX10_iron 156 = .ok (.aload_n 0, 1) := by decide +kernel
theorem dX10_iron_157 : decode cX10_iron 157 = .ok (.getfield 114, 3) := by decide +kernel
theorem dX10_iron_160 : decode cX10_iron 160 = .ok (.iconst 0, 1) := by decide +kernel
theorem dX10_iron_161 : decode cX10_iron 161 = .ok (.bastore, 1) := by decide +kernel
theorem dX10_iron_162 : decode cX10_iron 162 = .ok (.aload_n 0, 1) := by decide +kernel
theorem dX10_iron_163 : decode cX10_iron 163 = .ok (.aload_n 0, 1) := by decide +kernel
theorem dX10_iron_164 : decode cX10_iron 164 = .ok (.getfield 114, 3) := by decide +kernel
theorem dX10_iron_167 : decode cX10_iron 167 = .ok (.invokevirtual 135, 3) := by decide +kernel
theorem dX10_iron_170 : decode cX10_iron 170 = .ok (.aload_n 0, 1) := by decide +kernel
theorem dX10_iron_171 : decode cX10_iron 171 = .ok (.dup, 1) := by decide +kernel
theorem dX10_iron_172 : decode cX10_iron 172 = .ok (.getfield 114, 3) := by decide +kernel
theorem dX10_iron_175 : decode cX10_iron 175 = .ok (.iconst 1, 1) := by decide +kernel
theorem dX10_iron_176 : decode cX10_iron 176 = .ok (.iadd, 1) := by decide +kernel
theorem dX10_iron_177 : decode cX10_iron 177 = .ok (.putfield 114, 3) := by decide +kernel
theorem dX10_iron_180 : decode cX10_iron 180 = .ok (.aload_n 0, 1) := by decide +kernel
theorem dX10_iron_181 : decode cX10_iron 181 = .ok (.getfield 114, 3) := by decide +kernel
theorem dX10_iron_184 : decode cX10_iron 184 = .ok (.iconst 1, 1) := by decide +kernel
theorem dX10_iron_185 : decode cX10_iron 185 = .ok (.isub, 1) := by decide +kernel
theorem dX10_iron_186 : decode cX10_iron 186 = .ok (.ireturn, 1) := by decide +kernel
theorem dX10_knock_0 : decode cX10_knock 0 = .ok (.aload_n 0, 1) := by decide +kernel
theorem dX10_knock_1 : decode cX10_knock 1 = .ok (.iload_n 1, 1) := by decide +kernel
theorem dX10_knock_2 : decode cX10_knock 2 = .ok (.invokevirtual 139, 3) := by decide +kernel
theorem dX10_knock_5 : decode cX10_knock 5 = .ok (.ifCond .eq 7, 3) := by decide +kernel
theorem dX10_knock_8 : decode cX10_knock 8 = .ok (.sipush (-1001), 3) := by decide +kernel
theorem dX10_knock_11 : decode cX10_knock 11 = .ok (.ireturn, 1) := by decide +kernel
theorem dX10_knock_12 : decode cX10_knock 12 = .ok (.iload_n 2, 1) := by decide +kernel
theorem dX10_knock_13 : decode cX10_knock 13 = .ok (.iload_n 3, 1) := by decide +kernel
theorem dX10_knock_14 : decode cX10_knock 14 = .ok (.invokestatic 125, 3) := by decide +kernel
theorem dX10_knock_17 : decode cX10_knock 17 = .ok (.ifCond .ne 7, 3) := by decide +kernel
theorem dX10_knock_20 : decode cX10_knock 20 = .ok (.sipush (-1002), 3) := by decide +kernel
theorem dX10_knock_23 : decode cX10_knock 23 = .ok (.ireturn, 1) := by decide +kernel
theorem dX10_knock_24 : decode cX10_knock 24 = .ok (.aload_n 0, 1) := by decide +kernel
theorem dX10_knock_25 : decode cX10_knock 25 = .ok (.getfield 32, 3) := by decide +kernel
theorem dX10_knock_28 : decode cX10_knock 28 = .ok (.iload_n 1, 1) := by decide +kernel
theorem dX10_knock_29 : decode cX10_knock 29 = .ok (.baload, 1) := by decide +kernel
theorem dX10_knock_30 : decode cX10_knock 30 = .ok (.ifCond .eq 7, 3) := by decide +kernel
theorem dX10_knock_33 : decode cX10_knock 33 = .ok (.sipush (-1003), 3) := by decide +kernel
theorem dX10_knock_36 : decode cX10_knock 36 = .ok (.ireturn, 1) := by decide +kernel
theorem dX10_knock_37 : decode cX10_knock 37 = .ok (.aload_n 0, 1) := by decide +kernel
theorem dX10_knock_38 : decode cX10_knock 38 = .ok (.getfield 13, 3) := by decide +kernel
theorem dX10_knock_41 : decode cX10_knock 41 = .ok (.iload_n 1, 1) := by decide +kernel
theorem dX10_knock_42 : decode cX10_knock 42 = .ok (.iload_n 2, 1) := by decide +kernel
theorem dX10_knock_43 : decode cX10_knock 43 = .ok (.iastore, 1) := by decide +kernel
theorem dX10_knock_44 : decode cX10_knock 44 = .ok (.aload_n 0, 1) := by decide +kernel
theorem dX10_knock_45 : decode cX10_knock 45 = .ok (.getfield 16, 3) := by decide +kernel
theorem dX10_knock_48 : decode cX10_knock 48 = .ok (.iload_n 1, 1) := by decide +kernel
theorem dX10_knock_49 : decode cX10_knock 49 = .ok (.iload_n 3, 1) := by decide +kernel
theorem dX10_knock_50 : decode cX10_knock 50 = .ok (.iastore, 1) := by decide +kernel
theorem dX10_knock_51 : decode cX10_knock 51 = .ok (.aload_n 0, 1) := by decide +kernel
theorem dX10_knock_52 : decode cX10_knock 52 = .ok (.iload_n 1, 1) := by decide +kernel
theorem dX10_knock_53 : decode cX10_knock 53 = .ok (.invokevirtual 135, 3) := by decide +kernel
theorem dX10_knock_56 : decode cX10_knock 56 = .ok (.iconst 1, 1) := by decide +kernel
theorem dX10_knock_57 : decode cX10_knock 57 = .ok (.ireturn, 1) := by decide +kernel
theorem dX10_off_0 : decode cX10_off 0 = .ok (.aload_n 0, 1) := by decide +kernel
theorem dX10_off_1 : decode cX10_off 1 = .ok (.iload_n 1, 1) := by decide +kernel
theorem dX10_off_2 : decode cX10_off 2 = .ok (.invokevirtual 139, 3) := by decide +kernel
theorem dX10_off_5 : decode cX10_off 5 = .ok (.ifCond .eq 7, 3) := by decide +kernel
theorem dX10_off_8 : decode cX10_off 8 = .ok (.sipush (-1001), 3) := by decide +kernel
theorem dX10_off_11 : decode cX10_off 11 = .ok (.ireturn, 1) := by decide +kernel
theorem dX10_off_12 : decode cX10_off 12 = .ok (.aload_n 0, 1) := by decide +kernel
theorem dX10_off_13 : decode cX10_off 13 = .ok (.getfield 32, 3) := by decide +kernel
theorem dX10_off_16 : decode cX10_off 16 = .ok (.iload_n 1, 1) := by decide +kernel
theorem dX10_off_17 : decode cX10_off 17 = .ok (.baload, 1) := by decide +kernel
theorem dX10_off_18 : decode cX10_off 18 = .ok (.ifCond .eq 7, 3) := by decide +kernel
theorem dX10_off_21 : decode cX10_off 21 = .ok (.sipush (-1003), 3) := by decide +kernel
theorem dX10_off_24 : decode cX10_off 24 = .ok (.ireturn, 1) := by decide +kernel
theorem dX10_off_25 : decode cX10_off 25 = .ok (.aload_n 0, 1) := by decide +kernel
theorem dX10_off_26 : decode cX10_off 26 = .ok (.getfield 32, 3) := by decide +kernel
theorem dX10_off_29 : decode cX10_off 29 = .ok (.iload_n 1, 1) := by decide +kernel
theorem dX10_off_30 : decode cX10_off 30 = .ok (.iconst 1, 1) := by decide +kernel
theorem dX10_off_31 : decode cX10_off 31 = .ok (.bastore, 1) := by decide +kernel
theorem dX10_off_32 : decode cX10_off 32 = .ok (.iconst 1, 1) := by decide +kernel
theorem dX10_off_33 : decode cX10_off 33 = .ok (.ireturn, 1) := by decide +kernel
theorem dX10_square_0 : decode cX10_square 0 = .ok (.aload_n 0, 1) := by decide +kernel
theorem dX10_square_1 : decode cX10_square 1 = .ok (.getfield 13, 3) := by decide +kernel
theorem dX10_square_4 : decode cX10_square 4 = .ok (.iload_n 1, 1) := by decide +kernel
theorem dX10_square_5 : decode cX10_square 5 = .ok (.iaload, 1) := by decide +kernel
theorem dX10_square_6 : decode cX10_square 6 = .ok (.aload_n 0, 1) := by decide +kernel
theorem dX10_square_7 : decode cX10_square 7 = .ok (.getfield 13, 3) := by decide +kernel
theorem dX10_square_10 : decode cX10_square 10 = .ok (.iload_n 1, 1) := by decide +kernel
theorem dX10_square_11 : decode cX10_square 11 = .ok (.iaload, 1) := by decide +kernel
theorem dX10_square_12 : decode cX10_square 12 = .ok (.imul, 1) := by decide +kernel
theorem dX10_square_13 : decode cX10_square 13 = .ok (.aload_n 0, 1) := by decide +kernel
theorem dX10_square_14 : decode cX10_square 14 = .ok (.getfield 16, 3) := by decide +kernel
theorem dX10_square_17 : decode cX10_square 17 = .ok (.iload_n 1, 1) := by decide +kernel
theorem dX10_square_18 : decode cX10_square 18 = .ok (.iaload, 1) := by decide +kernel
theorem dX10_square_19 : decode cX10_square 19 = .ok (.aload_n 0, 1) := by decide +kernel
theorem dX10_square_20 : decode cX10_square 20 = .ok (.getfield 16, 3) := by decide +kernel
theorem dX10_square_23 : decode cX10_square 23 = .ok (.iload_n 1, 1) := by decide +kernel
theorem dX10_square_24 : decode cX10_square 24 = .ok (.iaload, 1) := by decide +kernel
theorem dX10_square_25 : decode cX10_square 25 = .ok (.imul, 1) := by decide +kernel
theorem dX10_square_26 : decode cX10_square 26 = .ok (.iadd, 1) := by decide +kernel
theorem dX10_square_27 : decode cX10_square 27 = .ok (.ireturn, 1) := by decide +kernel
theorem dX10_isRinger_0 : decode cX10_isRinger 0 = .ok (.aload_n 0, 1) := by decide +kernel
theorem dX10_isRinger_1 : decode cX10_isRinger 1 = .ok (.iload_n 1, 1) := by decide +kernel
theorem dX10_isRinger_2 : decode cX10_isRinger 2 = .ok (.invokevirtual 143, 3) := by decide +kernel
theorem dX10_isRinger_5 : decode cX10_isRinger 5 = .ok (.aload_n 0, 1) := by decide +kernel
theorem dX10_isRinger_6 : decode cX10_isRinger 6 = .ok (.getfield 22, 3) := by decide +kernel
theorem dX10_isRinger_9 : decode cX10_isRinger 9 = .ok (.iload_n 1, 1) := by decide +kernel
theorem dX10_isRinger_10 : decode cX10_isRinger 10 = .ok (.iaload, 1) := by decide +kernel
theorem dX10_isRinger_11 : decode cX10_isRinger 11 = .ok (.aload_n 0, 1) := by decide +kernel
theorem dX10_isRinger_12 : decode cX10_isRinger 12 = .ok (.getfield 22, 3) := by decide +kernel
theorem dX10_isRinger_15 : decode cX10_isRinger 15 = .ok (.iload_n 1, 1) := by decide +kernel
theorem dX10_isRinger_16 : decode cX10_isRinger 16 = .ok (.iaload, 1) := by decide +kernel
theorem dX10_isRinger_17 : decode cX10_isRinger 17 = .ok (.imul, 1) := by decide +kernel
theorem dX10_isRinger_18 : decode cX10_isRinger 18 = .ok (.if_icmp .ge 7, 3) := by decide +kernel
theorem dX10_isRinger_21 : decode cX10_isRinger 21 = .ok (.iconst 1, 1) := by decide +kernel
theorem dX10_isRinger_22 : decode cX10_isRinger 22 = .ok (.goto 4, 3) := by decide +kernel
theorem dX10_isRinger_25 : decode cX10_isRinger 25 = .ok (.iconst 0, 1) := by decide +kernel
theorem dX10_isRinger_26 : decode cX10_isRinger 26 = .ok (.ireturn, 1) := by decide +kernel
theorem dX10_liesOn_0 : decode cX10_liesOn 0 = .ok (.aload_n 0, 1) := by decide +kernel
theorem dX10_liesOn_1 : decode cX10_liesOn 1 = .ok (.getfield 13, 3) := by decide +kernel
theorem dX10_liesOn_4 : decode cX10_liesOn 4 = .ok (.iload_n 2, 1) := by decide +kernel
theorem dX10_liesOn_5 : decode cX10_liesOn 5 = .ok (.iaload, 1) := by decide +kernel
theorem dX10_liesOn_6 : decode cX10_liesOn 6 = .ok (.aload_n 0, 1) := by decide +kernel
theorem dX10_liesOn_7 : decode cX10_liesOn 7 = .ok (.getfield 13, 3) := by decide +kernel
theorem dX10_liesOn_10 : decode cX10_liesOn 10 = .ok (.iload_n 1, 1) := by decide +kernel
theorem dX10_liesOn_11 : decode cX10_liesOn 11 = .ok (.iaload, 1) := by decide +kernel
theorem dX10_liesOn_12 : decode cX10_liesOn 12 = .ok (.isub, 1) := by decide +kernel
theorem dX10_liesOn_13 : decode cX10_liesOn 13 = .ok (.istore_n 3, 1) := by decide +kernel
theorem dX10_liesOn_14 : decode cX10_liesOn 14 = .ok (.aload_n 0, 1) := by decide +kernel
theorem dX10_liesOn_15 : decode cX10_liesOn 15 = .ok (.getfield 16, 3) := by decide +kernel
theorem dX10_liesOn_18 : decode cX10_liesOn 18 = .ok (.iload_n 2, 1) := by decide +kernel
theorem dX10_liesOn_19 : decode cX10_liesOn 19 = .ok (.iaload, 1) := by decide +kernel
theorem dX10_liesOn_20 : decode cX10_liesOn 20 = .ok (.aload_n 0, 1) := by decide +kernel
theorem dX10_liesOn_21 : decode cX10_liesOn 21 = .ok (.getfield 16, 3) := by decide +kernel
theorem dX10_liesOn_24 : decode cX10_liesOn 24 = .ok (.iload_n 1, 1) := by decide +kernel
theorem dX10_liesOn_25 : decode cX10_liesOn 25 = .ok (.iaload, 1) := by decide +kernel
theorem dX10_liesOn_26 : decode cX10_liesOn 26 = .ok (.isub, 1) := by decide +kernel
theorem dX10_liesOn_27 : decode cX10_liesOn 27 = .ok (.istore 4, 2) := by decide +kernel
theorem dX10_liesOn_29 : decode cX10_liesOn 29 = .ok (.aload_n 0, 1) := by decide +kernel
theorem dX10_liesOn_30 : decode cX10_liesOn 30 = .ok (.getfield 19, 3) := by decide +kernel
theorem dX10_liesOn_33 : decode cX10_liesOn 33 = .ok (.iload_n 2, 1) := by decide +kernel
theorem dX10_liesOn_34 : decode cX10_liesOn 34 = .ok (.iaload, 1) := by decide +kernel
theorem dX10_liesOn_35 : decode cX10_liesOn 35 = .ok (.aload_n 0, 1) := by decide +kernel
theorem dX10_liesOn_36 : decode cX10_liesOn 36 = .ok (.getfield 19, 3) := by decide +kernel
theorem dX10_liesOn_39 : decode cX10_liesOn 39 = .ok (.iload_n 1, 1) := by decide +kernel
theorem dX10_liesOn_40 : decode cX10_liesOn 40 = .ok (.iaload, 1) := by decide +kernel
theorem dX10_liesOn_41 : decode cX10_liesOn 41 = .ok (.iadd, 1) := by decide +kernel
theorem dX10_liesOn_42 : decode cX10_liesOn 42 = .ok (.istore 5, 2) := by decide +kernel
theorem dX10_liesOn_44 : decode cX10_liesOn 44 = .ok (.iload_n 1, 1) := by decide +kernel
theorem dX10_liesOn_45 : decode cX10_liesOn 45 = .ok (.iload_n 2, 1) := by decide +kernel
theorem dX10_liesOn_46 : decode cX10_liesOn 46 = .ok (.if_icmp .le 42, 3) := by decide +kernel
theorem dX10_liesOn_49 : decode cX10_liesOn 49 = .ok (.aload_n 0, 1) := by decide +kernel
theorem dX10_liesOn_50 : decode cX10_liesOn 50 = .ok (.getfield 32, 3) := by decide +kernel
theorem dX10_liesOn_53 : decode cX10_liesOn 53 = .ok (.iload_n 2, 1) := by decide +kernel
theorem dX10_liesOn_54 : decode cX10_liesOn 54 = .ok (.baload, 1) := by decide +kernel
theorem dX10_liesOn_55 : decode cX10_liesOn 55 = .ok (.ifCond .ne 33, 3) := by decide +kernel
theorem dX10_liesOn_58 : decode cX10_liesOn 58 = .ok (.aload_n 0, 1) := by decide +kernel
theorem dX10_liesOn_59 : decode cX10_liesOn 59 = .ok (.getfield 32, 3) := by decide +kernel
theorem dX10_liesOn_62 : decode cX10_liesOn 62 = .ok (.iload_n 1, 1) := by decide +kernel
theorem dX10_liesOn_63 : decode cX10_liesOn 63 = .ok (.baload, 1) := by decide +kernel
theorem dX10_liesOn_64 : decode cX10_liesOn 64 = .ok (.ifCond .ne 24, 3) := by decide +kernel
theorem dX10_liesOn_67 : decode cX10_liesOn 67 = .ok (.iload_n 3, 1) := by decide +kernel
theorem dX10_liesOn_68 : decode cX10_liesOn 68 = .ok (.iload_n 3, 1) := by decide +kernel
theorem dX10_liesOn_69 : decode cX10_liesOn 69 = .ok (.imul, 1) := by decide +kernel
theorem dX10_liesOn_70 : decode cX10_liesOn 70 = .ok (.iload 4, 2) := by decide +kernel
theorem dX10_liesOn_72 : decode cX10_liesOn 72 = .ok (.iload 4, 2) := by decide +kernel
theorem dX10_liesOn_74 : decode cX10_liesOn 74 = .ok (.imul, 1) := by decide +kernel
theorem dX10_liesOn_75 : decode cX10_liesOn 75 = .ok (.iadd, 1) := by decide +kernel
theorem dX10_liesOn_76 : decode cX10_liesOn 76 = .ok (.iload 5, 2) := by decide +kernel
theorem dX10_liesOn_78 : decode cX10_liesOn 78 = .ok (.iload 5, 2) := by decide +kernel
theorem dX10_liesOn_80 : decode cX10_liesOn 80 = .ok (.imul, 1) := by decide +kernel
theorem dX10_liesOn_81 : decode cX10_liesOn 81 = .ok (.if_icmp .ge 7, 3) := by decide +kernel
theorem dX10_liesOn_84 : decode cX10_liesOn 84 = .ok (.iconst 1, 1) := by decide +kernel
theorem dX10_liesOn_85 : decode cX10_liesOn 85 = .ok (.goto 4, 3) := by decide +kernel
theorem dX10_liesOn_88 : decode cX10_liesOn 88 = .ok (.iconst 0, 1) := by decide +kernel
theorem dX10_liesOn_89 : decode cX10_liesOn 89 = .ok (.ireturn, 1) := by decide +kernel
theorem dX10_hasRoot_0 : decode cX10_hasRoot 0 = .ok (.aload_n 0, 1) := by decide +kernel
theorem dX10_hasRoot_1 : decode cX10_hasRoot 1 = .ok (.iload_n 1, 1) := by decide +kernel
theorem dX10_hasRoot_2 : decode cX10_hasRoot 2 = .ok (.invokevirtual 143, 3) := by decide +kernel
theorem dX10_hasRoot_5 : decode cX10_hasRoot 5 = .ok (.aload_n 0, 1) := by decide +kernel
theorem dX10_hasRoot_6 : decode cX10_hasRoot 6 = .ok (.getfield 19, 3) := by decide +kernel
theorem dX10_hasRoot_9 : decode cX10_hasRoot 9 = .ok (.iload_n 1, 1) := by decide +kernel
theorem dX10_hasRoot_10 : decode cX10_hasRoot 10 = .ok (.iaload, 1) := by decide +kernel
theorem dX10_hasRoot_11 : decode cX10_hasRoot 11 = .ok (.aload_n 0, 1) := by decide +kernel
theorem dX10_hasRoot_12 : decode cX10_hasRoot 12 = .ok (.getfield 19, 3) := by decide +kernel
theorem dX10_hasRoot_15 : decode cX10_hasRoot 15 = .ok (.iload_n 1, 1) := by decide +kernel
theorem dX10_hasRoot_16 : decode cX10_hasRoot 16 = .ok (.iaload, 1) := by decide +kernel
theorem dX10_hasRoot_17 : decode cX10_hasRoot 17 = .ok (.imul, 1) := by decide +kernel
theorem dX10_hasRoot_18 : decode cX10_hasRoot 18 = .ok (.if_icmp .lt 7, 3) := by decide +kernel
theorem dX10_hasRoot_21 : decode cX10_hasRoot 21 = .ok (.iconst 1, 1) := by decide +kernel
theorem dX10_hasRoot_22 : decode cX10_hasRoot 22 = .ok (.goto 4, 3) := by decide +kernel
theorem dX10_hasRoot_25 : decode cX10_hasRoot 25 = .ok (.iconst 0, 1) := by decide +kernel
theorem dX10_hasRoot_26 : decode cX10_hasRoot 26 = .ok (.ireturn, 1) := by decide +kernel
theorem dX10_rootOf_0 : decode cX10_rootOf 0 = .ok (.iconst 0, 1) := by decide +kernel
theorem dX10_rootOf_1 : decode cX10_rootOf 1 = .ok (.istore_n 1, 1) := by decide +kernel
theorem dX10_rootOf_2 : decode cX10_rootOf 2 = .ok (.iload_n 1, 1) := by decide +kernel
theorem dX10_rootOf_3 : decode cX10_rootOf 3 = .ok (.iconst 1, 1) := by decide +kernel
theorem dX10_rootOf_4 : decode cX10_rootOf 4 = .ok (.iadd, 1) := by decide +kernel
theorem dX10_rootOf_5 : decode cX10_rootOf 5 = .ok (.iload_n 1, 1) := by decide +kernel
theorem dX10_rootOf_6 : decode cX10_rootOf 6 = .ok (.iconst 1, 1) := by decide +kernel
theorem dX10_rootOf_7 : decode cX10_rootOf 7 = .ok (.iadd, 1) := by decide +kernel
theorem dX10_rootOf_8 : decode cX10_rootOf 8 = .ok (.imul, 1) := by decide +kernel
theorem dX10_rootOf_9 : decode cX10_rootOf 9 = .ok (.iload_n 0, 1) := by decide +kernel
theorem dX10_rootOf_10 : decode cX10_rootOf 10 = .ok (.if_icmp .gt 9, 3) := by decide +kernel
theorem dX10_rootOf_13 : decode cX10_rootOf 13 = .ok (.iinc 1 1, 3) := by decide +kernel
theorem dX10_rootOf_16 : decode cX10_rootOf 16 = .ok (.goto (-14), 3) := by decide +kernel
theorem dX10_rootOf_19 : decode cX10_rootOf 19 = .ok (.iload_n 1, 1) := by decide +kernel
theorem dX10_rootOf_20 : decode cX10_rootOf 20 = .ok (.ireturn, 1) := by decide +kernel
theorem dX10_nearness_0 : decode cX10_nearness 0 = .ok (.aload_n 0, 1) := by decide +kernel
theorem dX10_nearness_1 : decode cX10_nearness 1 = .ok (.getfield 25, 3) := by decide +kernel
theorem dX10_nearness_4 : decode cX10_nearness 4 = .ok (.iload_n 1, 1) := by decide +kernel
theorem dX10_nearness_5 : decode cX10_nearness 5 = .ok (.iaload, 1) := by decide +kernel
theorem dX10_nearness_6 : decode cX10_nearness 6 = .ok (.aload_n 0, 1) := by decide +kernel
theorem dX10_nearness_7 : decode cX10_nearness 7 = .ok (.iload_n 1, 1) := by decide +kernel
theorem dX10_nearness_8 : decode cX10_nearness 8 = .ok (.invokevirtual 146, 3) := by decide +kernel
theorem dX10_nearness_11 : decode cX10_nearness 11 = .ok (.ifCond .eq 21, 3) := by decide +kernel
theorem dX10_nearness_14 : decode cX10_nearness 14 = .ok (.aload_n 0, 1) := by decide +kernel
theorem dX10_nearness_15 : decode cX10_nearness 15 = .ok (.iload_n 1, 1) := by decide +kernel
theorem dX10_nearness_16 : decode cX10_nearness 16 = .ok (.invokevirtual 143, 3) := by decide +kernel
theorem dX10_nearness_19 : decode cX10_nearness 19 = .ok (.invokestatic 149, 3) := by decide +kernel
theorem dX10_nearness_22 : decode cX10_nearness 22 = .ok (.aload_n 0, 1) := by decide +kernel
theorem dX10_nearness_23 : decode cX10_nearness 23 = .ok (.getfield 19, 3) := by decide +kernel
theorem dX10_nearness_26 : decode cX10_nearness 26 = .ok (.iload_n 1, 1) := by decide +kernel
theorem dX10_nearness_27 : decode cX10_nearness 27 = .ok (.iaload, 1) := by decide +kernel
theorem dX10_nearness_28 : decode cX10_nearness 28 = .ok (.isub, 1) := by decide +kernel
theorem dX10_nearness_29 : decode cX10_nearness 29 = .ok (.goto 4, 3) := by decide +kernel
theorem dX10_nearness_32 : decode cX10_nearness 32 = .ok (.iconst 0, 1) := by decide +kernel
theorem dX10_nearness_33 : decode cX10_nearness 33 = .ok (.iadd, 1) := by decide +kernel
theorem dX10_nearness_34 : decode cX10_nearness 34 = .ok (.ireturn, 1) := by decide +kernel
theorem dX10_told_0 : decode cX10_told 0 = .ok (.aload_n 0, 1) := by decide +kernel
theorem dX10_told_1 : decode cX10_told 1 = .ok (.iload_n 1, 1) := by decide +kernel
theorem dX10_told_2 : decode cX10_told 2 = .ok (.invokevirtual 139, 3) := by decide +kernel
theorem dX10_told_5 : decode cX10_told 5 = .ok (.ifCond .eq 7, 3) := by decide +kernel
theorem dX10_told_8 : decode cX10_told 8 = .ok (.sipush (-1001), 3) := by decide +kernel
theorem dX10_told_11 : decode cX10_told 11 = .ok (.ireturn, 1) := by decide +kernel
theorem dX10_told_12 : decode cX10_told 12 = .ok (.iconst 0, 1) := by decide +kernel
theorem dX10_told_13 : decode cX10_told 13 = .ok (.istore_n 3, 1) := by decide +kernel
theorem dX10_told_14 : decode cX10_told 14 = .ok (.iconst 0, 1) := by decide +kernel
theorem dX10_told_15 : decode cX10_told 15 = .ok (.istore 4, 2) := by decide +kernel
theorem dX10_told_17 : decode cX10_told 17 = .ok (.iconst 0, 1) := by decide +kernel
theorem dX10_told_18 : decode cX10_told 18 = .ok (.istore 5, 2) := by decide +kernel
theorem dX10_told_20 : decode cX10_told 20 = .ok (.iload 5, 2) := by decide +kernel
theorem dX10_told_22 : decode cX10_told 22 = .ok (.aload_n 0, 1) := by decide +kernel
theorem dX10_told_23 : decode cX10_told 23 = .ok (.getfield 114, 3) := by decide +kernel
theorem dX10_told_26 : decode cX10_told 26 = .ok (.if_icmp .ge 43, 3) := by decide +kernel
theorem dX10_told_29 : decode cX10_told 29 = .ok (.iload_n 3, 1) := by decide +kernel
theorem dX10_told_30 : decode cX10_told 30 = .ok (.aload_n 0, 1) := by decide +kernel
theorem dX10_told_31 : decode cX10_told 31 = .ok (.iload 5, 2) := by decide +kernel
theorem dX10_told_33 : decode cX10_told 33 = .ok (.iload_n 1, 1) := by decide +kernel
theorem dX10_told_34 : decode cX10_told 34 = .ok (.invokevirtual 152, 3) := by decide +kernel
theorem dX10_told_37 : decode cX10_told 37 = .ok (.invokestatic 155, 3) := by decide +kernel
theorem dX10_told_40 : decode cX10_told 40 = .ok (.iload 5, 2) := by decide +kernel
theorem dX10_told_42 : decode cX10_told 42 = .ok (.ishl, 1) := by decide +kernel
theorem dX10_told_43 : decode cX10_told 43 = .ok (.ior, 1) := by decide +kernel
theorem dX10_told_44 : decode cX10_told 44 = .ok (.istore_n 3, 1) := by decide +kernel
theorem dX10_told_45 : decode cX10_told 45 = .ok (.iload 4, 2) := by decide +kernel
theorem dX10_told_47 : decode cX10_told 47 = .ok (.aload_n 0, 1) := by decide +kernel
theorem dX10_told_48 : decode cX10_told 48 = .ok (.iload_n 1, 1) := by decide +kernel
theorem dX10_told_49 : decode cX10_told 49 = .ok (.iload 5, 2) := by decide +kernel
theorem dX10_told_51 : decode cX10_told 51 = .ok (.invokevirtual 152, 3) := by decide +kernel
theorem dX10_told_54 : decode cX10_told 54 = .ok (.invokestatic 155, 3) := by decide +kernel
theorem dX10_told_57 : decode cX10_told 57 = .ok (.iload 5, 2) := by decide +kernel
theorem dX10_told_59 : decode cX10_told 59 = .ok (.ishl, 1) := by decide +kernel
theorem dX10_told_60 : decode cX10_told 60 = .ok (.ior, 1) := by decide +kernel
theorem dX10_told_61 : decode cX10_told 61 = .ok (.istore 4, 2) := by decide +kernel
theorem dX10_told_63 : decode cX10_told 63 = .ok (.iinc 5 1, 3) := by decide +kernel
theorem dX10_told_66 : decode cX10_told 66 = .ok (.goto (-46), 3) := by decide +kernel
theorem dX10_told_69 : decode cX10_told 69 = .ok (.iload_n 2, 1) := by decide +kernel
theorem dX10_told_70 : decode cX10_told 70 = .ok (.tableswitch 133 0 9 #[54, 61, 68, 75, 81, 90, 108, 118, 120, 123], 54) := by decide +kernel
theorem dX10_told_124 : decode cX10_told 124 = .ok (.aload_n 0, 1) := by decide +kernel
theorem dX10_told_125 : decode cX10_told 125 = .ok (.getfield 7, 3) := by decide +kernel
theorem dX10_told_128 : decode cX10_told 128 = .ok (.iload_n 1, 1) := by decide +kernel
theorem dX10_told_129 : decode cX10_told 129 = .ok (.iaload, 1) := by decide +kernel
theorem dX10_told_130 : decode cX10_told 130 = .ok (.ireturn, 1) := by decide +kernel
theorem dX10_told_131 : decode cX10_told 131 = .ok (.aload_n 0, 1) := by decide +kernel
theorem dX10_told_132 : decode cX10_told 132 = .ok (.getfield 13, 3) := by decide +kernel
theorem dX10_told_135 : decode cX10_told 135 = .ok (.iload_n 1, 1) := by decide +kernel
theorem dX10_told_136 : decode cX10_told 136 = .ok (.iaload, 1) := by decide +kernel
theorem dX10_told_137 : decode cX10_told 137 = .ok (.ireturn, 1) := by decide +kernel
theorem dX10_told_138 : decode cX10_told 138 = .ok (.aload_n 0, 1) := by decide +kernel
theorem dX10_told_139 : decode cX10_told 139 = .ok (.getfield 16, 3) := by decide +kernel
theorem dX10_told_142 : decode cX10_told 142 = .ok (.iload_n 1, 1) := by decide +kernel
theorem dX10_told_143 : decode cX10_told 143 = .ok (.iaload, 1) := by decide +kernel
theorem dX10_told_144 : decode cX10_told 144 = .ok (.ireturn, 1) := by decide +kernel
theorem dX10_told_145 : decode cX10_told 145 = .ok (.aload_n 0, 1) := by decide +kernel
theorem dX10_told_146 : decode cX10_told 146 = .ok (.iload_n 1, 1) := by decide +kernel
theorem dX10_told_147 : decode cX10_told 147 = .ok (.invokevirtual 143, 3) := by decide +kernel
theorem dX10_told_150 : decode cX10_told 150 = .ok (.ireturn, 1) := by decide +kernel
theorem dX10_told_151 : decode cX10_told 151 = .ok (.aload_n 0, 1) := by decide +kernel
theorem dX10_told_152 : decode cX10_told 152 = .ok (.iload_n 1, 1) := by decide +kernel
theorem dX10_told_153 : decode cX10_told 153 = .ok (.invokevirtual 159, 3) := by decide +kernel
theorem dX10_told_156 : decode cX10_told 156 = .ok (.invokestatic 155, 3) := by decide +kernel
theorem dX10_told_159 : decode cX10_told 159 = .ok (.ireturn, 1) := by decide +kernel
theorem dX10_told_160 : decode cX10_told 160 = .ok (.aload_n 0, 1) := by decide +kernel
theorem dX10_told_161 : decode cX10_told 161 = .ok (.iload_n 1, 1) := by decide +kernel
theorem dX10_told_162 : decode cX10_told 162 = .ok (.invokevirtual 159, 3) := by decide +kernel
theorem dX10_told_165 : decode cX10_told 165 = .ok (.ifCond .eq 7, 3) := by decide +kernel
theorem dX10_told_168 : decode cX10_told 168 = .ok (.iconst (-1), 1) := by decide +kernel
theorem dX10_told_169 : decode cX10_told 169 = .ok (.goto 8, 3) := by decide +kernel
theorem dX10_told_172 : decode cX10_told 172 = .ok (.aload_n 0, 1) := by decide +kernel
theorem dX10_told_173 : decode cX10_told 173 = .ok (.iload_n 1, 1) := by decide +kernel
theorem dX10_told_174 : decode cX10_told 174 = .ok (.invokevirtual 162, 3) := by decide +kernel
theorem dX10_told_177 : decode cX10_told 177 = .ok (.ireturn, 1) := by decide +kernel
theorem dX10_told_178 : decode cX10_told 178 = .ok (.aload_n 0, 1) := by decide +kernel
theorem dX10_told_179 : decode cX10_told 179 = .ok (.getfield 32, 3) := by decide +kernel
theorem dX10_told_182 : decode cX10_told 182 = .ok (.iload_n 1, 1) := by decide +kernel
theorem dX10_told_183 : decode cX10_told 183 = .ok (.baload, 1) := by decide +kernel
theorem dX10_told_184 : decode cX10_told 184 = .ok (.invokestatic 155, 3) := by decide +kernel
theorem dX10_told_187 : decode cX10_told 187 = .ok (.ireturn, 1) := by decide +kernel
theorem dX10_told_188 : decode cX10_told 188 = .ok (.iload_n 3, 1) := by decide +kernel
theorem dX10_told_189 : decode cX10_told 189 = .ok (.ireturn, 1) := by decide +kernel
theorem dX10_told_190 : decode cX10_told 190 = .ok (.iload 4, 2) := by decide +kernel
theorem dX10_told_192 : decode cX10_told 192 = .ok (.ireturn, 1) := by decide +kernel
theorem dX10_told_193 : decode cX10_told 193 = .ok (.aload_n 0, 1) := by decide +kernel
theorem dX10_told_194 : decode cX10_told 194 = .ok (.getfield 28, 3) := by decide +kernel
theorem dX10_told_197 : decode cX10_told 197 = .ok (.iload_n 1, 1) := by decide +kernel
theorem dX10_told_198 : decode cX10_told 198 = .ok (.baload, 1) := by decide +kernel
theorem dX10_told_199 : decode cX10_told 199 = .ok (.invokestatic 155, 3) := by decide +kernel
theorem dX10_told_202 : decode cX10_told 202 = .ok (.ireturn, 1) := by decide +kernel
theorem dX10_told_203 : decode cX10_told 203 = .ok (.sipush (-1002), 3) := by decide +kernel
theorem dX10_told_206 : decode cX10_told 206 = .ok (.ireturn, 1) := by decide +kernel
theorem dX10_held_0 : decode cX10_held 0 = .ok (.lload_n 2, 1) := by decide +kernel
theorem dX10_held_1 : decode cX10_held 1 = .ok (.lload 6, 2) := by decide +kernel
theorem dX10_held_3 : decode cX10_held 3 = .ok (.lsub, 1) := by decide +kernel
theorem dX10_held_4 : decode cX10_held 4 = .ok (.lstore 8, 2) := by decide +kernel
theorem dX10_held_6 : decode cX10_held 6 = .ok (.lload 8, 2) := by decide +kernel
theorem dX10_held_8 : decode cX10_held 8 = .ok (.lconst 0, 1) := by decide +kernel
theorem dX10_held_9 : decode cX10_held 9 = .ok (.lcmp, 1) := by decide +kernel
theorem dX10_held_10 : decode cX10_held 10 = .ok (.ifCond .ge 16, 3) := by decide +kernel
theorem dX10_held_13 : decode cX10_held 13 = .ok (.iconst 0, 1) := by decide +kernel
theorem dX10_held_14 : decode cX10_held 14 = .ok (.lload 4, 2) := by decide +kernel
theorem dX10_held_16 : decode cX10_held 16 = .ok (.lload_n 0, 1) := by decide +kernel
theorem dX10_held_17 : decode cX10_held 17 = .ok (.lconst 0, 1) := by decide +kernel
theorem dX10_held_18 : decode cX10_held 18 = .ok (.lload 8, 2) := by decide +kernel
theorem dX10_held_20 : decode cX10_held 20 = .ok (.lsub, 1) := by decide +kernel
theorem dX10_held_21 : decode cX10_held 21 = .ok (.invokestatic 165, 3) := by decide +kernel
theorem dX10_held_24 : decode cX10_held 24 = .ok (.isub, 1) := by decide +kernel
theorem dX10_held_25 : decode cX10_held 25 = .ok (.ireturn, 1) := by decide +kernel
theorem dX10_held_26 : decode cX10_held 26 = .ok (.lload_n 0, 1) := by decide +kernel
theorem dX10_held_27 : decode cX10_held 27 = .ok (.lload 4, 2) := by decide +kernel
theorem dX10_held_29 : decode cX10_held 29 = .ok (.lload 8, 2) := by decide +kernel
theorem dX10_held_31 : decode cX10_held 31 = .ok (.invokestatic 165, 3) := by decide +kernel
theorem dX10_held_34 : decode cX10_held 34 = .ok (.ireturn, 1) := by decide +kernel
theorem dX10_held2_0 : decode cX10_held2 0 = .ok (.lload_n 2, 1) := by decide +kernel
theorem dX10_held2_1 : decode cX10_held2 1 = .ok (.lload_n 0, 1) := by decide +kernel
theorem dX10_held2_2 : decode cX10_held2 2 = .ok (.lsub, 1) := by decide +kernel
theorem dX10_held2_3 : decode cX10_held2 3 = .ok (.lload 4, 2) := by decide +kernel
theorem dX10_held2_5 : decode cX10_held2 5 = .ok (.lload 4, 2) := by decide +kernel
theorem dX10_held2_7 : decode cX10_held2 7 = .ok (.lmul, 1) := by decide +kernel
theorem dX10_held2_8 : decode cX10_held2 8 = .ok (.lsub, 1) := by decide +kernel
theorem dX10_held2_9 : decode cX10_held2 9 = .ok (.lstore 6, 2) := by decide +kernel
theorem dX10_held2_11 : decode cX10_held2 11 = .ok (.lload 6, 2) := by decide +kernel
theorem dX10_held2_13 : decode cX10_held2 13 = .ok (.lconst 0, 1) := by decide +kernel
theorem dX10_held2_14 : decode cX10_held2 14 = .ok (.lcmp, 1) := by decide +kernel
theorem dX10_held2_15 : decode cX10_held2 15 = .ok (.ifCond .ge 5, 3) := by decide +kernel
theorem dX10_held2_18 : decode cX10_held2 18 = .ok (.iconst 1, 1) := by decide +kernel
theorem dX10_held2_19 : decode cX10_held2 19 = .ok (.ireturn, 1) := by decide +kernel
theorem dX10_held2_20 : decode cX10_held2 20 = .ok (.ldc2_w 169, 3) := by decide +kernel
theorem dX10_held2_23 : decode cX10_held2 23 = .ok (.lload 4, 2) := by decide +kernel
theorem dX10_held2_25 : decode cX10_held2 25 = .ok (.lmul, 1) := by decide +kernel
theorem dX10_held2_26 : decode cX10_held2 26 = .ok (.lload 4, 2) := by decide +kernel
theorem dX10_held2_28 : decode cX10_held2 28 = .ok (.lmul, 1) := by decide +kernel
theorem dX10_held2_29 : decode cX10_held2 29 = .ok (.lload_n 0, 1) := by decide +kernel
theorem dX10_held2_30 : decode cX10_held2 30 = .ok (.lmul, 1) := by decide +kernel
theorem dX10_held2_31 : decode cX10_held2 31 = .ok (.lstore 8, 2) := by decide +kernel
theorem dX10_held2_33 : decode cX10_held2 33 = .ok (.lload 6, 2) := by decide +kernel
theorem dX10_held2_35 : decode cX10_held2 35 = .ok (.lload 6, 2) := by decide +kernel
theorem dX10_held2_37 : decode cX10_held2 37 = .ok (.lmul, 1) := by decide +kernel
theorem dX10_held2_38 : decode cX10_held2 38 = .ok (.lstore 10, 2) := by decide +kernel
theorem dX10_held2_40 : decode cX10_held2 40 = .ok (.lload 8, 2) := by decide +kernel
theorem dX10_held2_42 : decode cX10_held2 42 = .ok (.lload 10, 2) := by decide +kernel
theorem dX10_held2_44 : decode cX10_held2 44 = .ok (.lcmp, 1) := by decide +kernel
theorem dX10_held2_45 : decode cX10_held2 45 = .ok (.ifCond .le 7, 3) := by decide +kernel
theorem dX10_held2_48 : decode cX10_held2 48 = .ok (.iconst 1, 1) := by decide +kernel
theorem dX10_held2_49 : decode cX10_held2 49 = .ok (.goto 16, 3) := by decide +kernel
theorem dX10_held2_52 : decode cX10_held2 52 = .ok (.lload 8, 2) := by decide +kernel
theorem dX10_held2_54 : decode cX10_held2 54 = .ok (.lload 10, 2) := by decide +kernel
theorem dX10_held2_56 : decode cX10_held2 56 = .ok (.lcmp, 1) := by decide +kernel
theorem dX10_held2_57 : decode cX10_held2 57 = .ok (.ifCond .ge 7, 3) := by decide +kernel
theorem dX10_held2_60 : decode cX10_held2 60 = .ok (.iconst (-1), 1) := by decide +kernel
theorem dX10_held2_61 : decode cX10_held2 61 = .ok (.goto 4, 3) := by decide +kernel
theorem dX10_held2_64 : decode cX10_held2 64 = .ok (.iconst 0, 1) := by decide +kernel
theorem dX10_held2_65 : decode cX10_held2 65 = .ok (.ireturn, 1) := by decide +kernel
theorem dX10_rootPart_0 : decode cX10_rootPart 0 = .ok (.aload_n 0, 1) := by decide +kernel
theorem dX10_rootPart_1 : decode cX10_rootPart 1 = .ok (.iload_n 1, 1) := by decide +kernel
theorem dX10_rootPart_2 : decode cX10_rootPart 2 = .ok (.invokevirtual 146, 3) := by decide +kernel
theorem dX10_rootPart_5 : decode cX10_rootPart 5 = .ok (.ifCond .eq 12, 3) := by decide +kernel
theorem dX10_rootPart_8 : decode cX10_rootPart 8 = .ok (.aload_n 0, 1) := by decide +kernel
theorem dX10_rootPart_9 : decode cX10_rootPart 9 = .ok (.iload_n 1, 1) := by decide +kernel
theorem dX10_rootPart_10 : decode cX10_rootPart 10 = .ok (.invokevirtual 143, 3) := by decide +kernel
theorem dX10_rootPart_13 : decode cX10_rootPart 13 = .ok (.i2l, 1) := by decide +kernel
theorem dX10_rootPart_14 : decode cX10_rootPart 14 = .ok (.goto 4, 3) := by decide +kernel
theorem dX10_rootPart_17 : decode cX10_rootPart 17 = .ok (.lconst 0, 1) := by decide +kernel
theorem dX10_rootPart_18 : decode cX10_rootPart 18 = .ok (.lreturn, 1) := by decide +kernel
theorem dX10_wholePart_0 : decode cX10_wholePart 0 = .ok (.aload_n 0, 1) := by decide +kernel
theorem dX10_wholePart_1 : decode cX10_wholePart 1 = .ok (.getfield 25, 3) := by decide +kernel
theorem dX10_wholePart_4 : decode cX10_wholePart 4 = .ok (.iload_n 1, 1) := by decide +kernel
theorem dX10_wholePart_5 : decode cX10_wholePart 5 = .ok (.iaload, 1) := by decide +kernel
theorem dX10_wholePart_6 : decode cX10_wholePart 6 = .ok (.i2l, 1) := by decide +kernel
theorem dX10_wholePart_7 : decode cX10_wholePart 7 = .ok (.aload_n 0, 1) := by decide +kernel
theorem dX10_wholePart_8 : decode cX10_wholePart 8 = .ok (.iload_n 1, 1) := by decide +kernel
theorem dX10_wholePart_9 : decode cX10_wholePart 9 = .ok (.invokevirtual 146, 3) := by decide +kernel
theorem dX10_wholePart_12 : decode cX10_wholePart 12 = .ok (.ifCond .eq 13, 3) := by decide +kernel
theorem dX10_wholePart_15 : decode cX10_wholePart 15 = .ok (.aload_n 0, 1) := by decide +kernel
theorem dX10_wholePart_16 : decode cX10_wholePart 16 = .ok (.getfield 19, 3) := by decide +kernel
theorem dX10_wholePart_19 : decode cX10_wholePart 19 = .ok (.iload_n 1, 1) := by decide +kernel
theorem dX10_wholePart_20 : decode cX10_wholePart 20 = .ok (.iaload, 1) := by decide +kernel
theorem dX10_wholePart_21 : decode cX10_wholePart 21 = .ok (.i2l, 1) := by decide +kernel
theorem dX10_wholePart_22 : decode cX10_wholePart 22 = .ok (.goto 4, 3) := by decide +kernel
theorem dX10_wholePart_25 : decode cX10_wholePart 25 = .ok (.lconst 0, 1) := by decide +kernel
theorem dX10_wholePart_26 : decode cX10_wholePart 26 = .ok (.lsub, 1) := by decide +kernel
theorem dX10_wholePart_27 : decode cX10_wholePart 27 = .ok (.lreturn, 1) := by decide +kernel
theorem dX10_nearer_0 : decode cX10_nearer 0 = .ok (.aload_n 0, 1) := by decide +kernel
theorem dX10_nearer_1 : decode cX10_nearer 1 = .ok (.iload_n 1, 1) := by decide +kernel
theorem dX10_nearer_2 : decode cX10_nearer 2 = .ok (.invokevirtual 139, 3) := by decide +kernel
theorem dX10_nearer_5 : decode cX10_nearer 5 = .ok (.ifCond .ne 11, 3) := by decide +kernel
theorem dX10_nearer_8 : decode cX10_nearer 8 = .ok (.aload_n 0, 1) := by decide +kernel
theorem dX10_nearer_9 : decode cX10_nearer 9 = .ok (.iload_n 2, 1) := by decide +kernel
theorem dX10_nearer_10 : decode cX10_nearer 10 = .ok (.invokevirtual 139, 3) := by decide +kernel
theorem dX10_nearer_13 : decode cX10_nearer 13 = .ok (.ifCond .eq 7, 3) := by decide +kernel
theorem dX10_nearer_16 : decode cX10_nearer 16 = .ok (.sipush (-1001), 3) := by decide +kernel
theorem dX10_nearer_19 : decode cX10_nearer 19 = .ok (.ireturn, 1) := by decide +kernel
theorem dX10_nearer_20 : decode cX10_nearer 20 = .ok (.iload_n 3, 1) := by decide +kernel
theorem dX10_nearer_21 : decode cX10_nearer 21 = .ok (.i2l, 1) := by decide +kernel
theorem dX10_nearer_22 : decode cX10_nearer 22 = .ok (.ldc2_w 171, 3) := by decide +kernel
theorem dX10_nearer_25 : decode cX10_nearer 25 = .ok (.ldc2_w 173, 3) := by decide +kernel
theorem dX10_nearer_28 : decode cX10_nearer 28 = .ok (.invokestatic 117, 3) := by decide +kernel
theorem dX10_nearer_31 : decode cX10_nearer 31 = .ok (.ifCond .ne 7, 3) := by decide +kernel
theorem dX10_nearer_34 : decode cX10_nearer 34 = .ok (.sipush (-1002), 3) := by decide +kernel
theorem dX10_nearer_37 : decode cX10_nearer 37 = .ok (.ireturn, 1) := by decide +kernel
theorem dX10_nearer_38 : decode cX10_nearer 38 = .ok (.aload_n 0, 1) := by decide +kernel
theorem dX10_nearer_39 : decode cX10_nearer 39 = .ok (.iload_n 1, 1) := by decide +kernel
theorem dX10_nearer_40 : decode cX10_nearer 40 = .ok (.invokevirtual 159, 3) := by decide +kernel
theorem dX10_nearer_43 : decode cX10_nearer 43 = .ok (.ifCond .ne 11, 3) := by decide +kernel
theorem dX10_nearer_46 : decode cX10_nearer 46 = .ok (.aload_n 0, 1) := by decide +kernel
theorem dX10_nearer_47 : decode cX10_nearer 47 = .ok (.iload_n 2, 1) := by decide +kernel
theorem dX10_nearer_48 : decode cX10_nearer 48 = .ok (.invokevirtual 159, 3) := by decide +kernel
theorem dX10_nearer_51 : decode cX10_nearer 51 = .ok (.ifCond .eq 7, 3) := by decide +kernel
theorem dX10_nearer_54 : decode cX10_nearer 54 = .ok (.sipush (-1003), 3) := by decide +kernel
theorem dX10_nearer_57 : decode cX10_nearer 57 = .ok (.ireturn, 1) := by decide +kernel
theorem dX10_nearer_58 : decode cX10_nearer 58 = .ok (.aload_n 0, 1) := by decide +kernel
theorem dX10_nearer_59 : decode cX10_nearer 59 = .ok (.iload_n 1, 1) := by decide +kernel
theorem dX10_nearer_60 : decode cX10_nearer 60 = .ok (.invokevirtual 175, 3) := by decide +kernel
theorem dX10_nearer_63 : decode cX10_nearer 63 = .ok (.aload_n 0, 1) := by decide +kernel
theorem dX10_nearer_64 : decode cX10_nearer 64 = .ok (.iload_n 1, 1) := by decide +kernel
theorem dX10_nearer_65 : decode cX10_nearer 65 = .ok (.invokevirtual 179, 3) := by decide +kernel
theorem dX10_nearer_68 : decode cX10_nearer 68 = .ok (.iload_n 3, 1) := by decide +kernel
theorem dX10_nearer_69 : decode cX10_nearer 69 = .ok (.i2l, 1) := by decide +kernel
theorem dX10_nearer_70 : decode cX10_nearer 70 = .ok (.ladd, 1) := by decide +kernel
theorem dX10_nearer_71 : decode cX10_nearer 71 = .ok (.aload_n 0, 1) := by decide +kernel
theorem dX10_nearer_72 : decode cX10_nearer 72 = .ok (.iload_n 2, 1) := by decide +kernel
theorem dX10_nearer_73 : decode cX10_nearer 73 = .ok (.invokevirtual 175, 3) := by decide +kernel
theorem dX10_nearer_76 : decode cX10_nearer 76 = .ok (.aload_n 0, 1) := by decide +kernel
theorem dX10_nearer_77 : decode cX10_nearer 77 = .ok (.iload_n 2, 1) := by decide +kernel
theorem dX10_nearer_78 : decode cX10_nearer 78 = .ok (.invokevirtual 179, 3) := by decide +kernel
theorem dX10_nearer_81 : decode cX10_nearer 81 = .ok (.invokestatic 182, 3) := by decide +kernel
theorem dX10_nearer_84 : decode cX10_nearer 84 = .ok (.ireturn, 1) := by decide +kernel
theorem dX10_ringersOf_0 : decode cX10_ringersOf 0 = .ok (.iconst 0, 1) := by decide +kernel
theorem dX10_ringersOf_1 : decode cX10_ringersOf 1 = .ok (.istore_n 2, 1) := by decide +kernel
theorem dX10_ringersOf_2 : decode cX10_ringersOf 2 = .ok (.iconst 0, 1) := by decide +kernel
theorem dX10_ringersOf_3 : decode cX10_ringersOf 3 = .ok (.istore_n 3, 1) := by decide +kernel
theorem dX10_ringersOf_4 : decode cX10_ringersOf 4 = .ok (.iload_n 3, 1) := by decide +kernel
theorem dX10_ringersOf_5 : decode cX10_ringersOf 5 = .ok (.aload_n 0, 1) := by decide +kernel
theorem dX10_ringersOf_6 : decode cX10_ringersOf 6 = .ok (.getfield 114, 3) := by decide +kernel
theorem dX10_ringersOf_9 : decode cX10_ringersOf 9 = .ok (.if_icmp .ge 47, 3) := by decide +kernel
theorem dX10_ringersOf_12 : decode cX10_ringersOf 12 = .ok (.iload_n 2, 1) := by decide +kernel
theorem dX10_ringersOf_13 : decode cX10_ringersOf 13 = .ok (.aload_n 0, 1) := by decide +kernel
theorem dX10_ringersOf_14 : decode cX10_ringersOf 14 = .ok (.getfield 32, 3) := by decide +kernel
theorem dX10_ringersOf_17 : decode cX10_ringersOf 17 = .ok (.iload_n 3, 1) := by decide +kernel
theorem dX10_ringersOf_18 : decode cX10_ringersOf 18 = .ok (.baload, 1) := by decide +kernel
theorem dX10_ringersOf_19 : decode cX10_ringersOf 19 = .ok (.ifCond .ne 25, 3) := by decide +kernel
theorem dX10_ringersOf_22 : decode cX10_ringersOf 22 = .ok (.aload_n 0, 1) := by decide +kernel
theorem dX10_ringersOf_23 : decode cX10_ringersOf 23 = .ok (.iload_n 3, 1) := by decide +kernel
theorem dX10_ringersOf_24 : decode cX10_ringersOf 24 = .ok (.invokevirtual 159, 3) := by decide +kernel
theorem dX10_ringersOf_27 : decode cX10_ringersOf 27 = .ok (.ifCond .eq 17, 3) := by decide +kernel
theorem dX10_ringersOf_30 : decode cX10_ringersOf 30 = .ok (.aload_n 0, 1) := by decide +kernel
theorem dX10_ringersOf_31 : decode cX10_ringersOf 31 = .ok (.getfield 7, 3) := by decide +kernel
theorem dX10_ringersOf_34 : decode cX10_ringersOf 34 = .ok (.iload_n 3, 1) := by decide +kernel
theorem dX10_ringersOf_35 : decode cX10_ringersOf 35 = .ok (.iaload, 1) := by decide +kernel
theorem dX10_ringersOf_36 : decode cX10_ringersOf 36 = .ok (.iload_n 1, 1) := by decide +kernel
theorem dX10_ringersOf_37 : decode cX10_ringersOf 37 = .ok (.if_icmp .ne 7, 3) := by decide +kernel
theorem dX10_ringersOf_40 : decode cX10_ringersOf 40 = .ok (.iconst 1, 1) := by decide +kernel
theorem dX10_ringersOf_41 : decode cX10_ringersOf 41 = .ok (.goto 4, 3) := by decide +kernel
theorem dX10_ringersOf_44 : decode cX10_ringersOf 44 = .ok (.iconst 0, 1) := by decide +kernel
theorem dX10_ringersOf_45 : decode cX10_ringersOf 45 = .ok (.invokestatic 155, 3) := by decide +kernel
theorem dX10_ringersOf_48 : decode cX10_ringersOf 48 = .ok (.iadd, 1) := by decide +kernel
theorem dX10_ringersOf_49 : decode cX10_ringersOf 49 = .ok (.istore_n 2, 1) := by decide +kernel
theorem dX10_ringersOf_50 : decode cX10_ringersOf 50 = .ok (.iinc 3 1, 3) := by decide +kernel
theorem dX10_ringersOf_53 : decode cX10_ringersOf 53 = .ok (.goto (-49), 3) := by decide +kernel
theorem dX10_ringersOf_56 : decode cX10_ringersOf 56 = .ok (.iload_n 2, 1) := by decide +kernel
theorem dX10_ringersOf_57 : decode cX10_ringersOf 57 = .ok (.ireturn, 1) := by decide +kernel
theorem dX10_count_0 : decode cX10_count 0 = .ok (.iconst 0, 1) := by decide +kernel
theorem dX10_count_1 : decode cX10_count 1 = .ok (.istore_n 2, 1) := by decide +kernel
theorem dX10_count_2 : decode cX10_count 2 = .ok (.iconst 0, 1) := by decide +kernel
theorem dX10_count_3 : decode cX10_count 3 = .ok (.istore_n 3, 1) := by decide +kernel
theorem dX10_count_4 : decode cX10_count 4 = .ok (.iconst 0, 1) := by decide +kernel
theorem dX10_count_5 : decode cX10_count 5 = .ok (.istore 4, 2) := by decide +kernel
theorem dX10_count_7 : decode cX10_count 7 = .ok (.iconst 0, 1) := by decide +kernel
theorem dX10_count_8 : decode cX10_count 8 = .ok (.istore 5, 2) := by decide +kernel
theorem dX10_count_10 : decode cX10_count 10 = .ok (.iload 5, 2) := by decide +kernel
theorem dX10_count_12 : decode cX10_count 12 = .ok (.aload_n 0, 1) := by decide +kernel
theorem dX10_count_13 : decode cX10_count 13 = .ok (.getfield 114, 3) := by decide +kernel
theorem dX10_count_16 : decode cX10_count 16 = .ok (.if_icmp .ge 48, 3) := by decide +kernel
theorem dX10_count_19 : decode cX10_count 19 = .ok (.iload_n 2, 1) := by decide +kernel
theorem dX10_count_20 : decode cX10_count 20 = .ok (.aload_n 0, 1) := by decide +kernel
theorem dX10_count_21 : decode cX10_count 21 = .ok (.getfield 32, 3) := by decide +kernel
theorem dX10_count_24 : decode cX10_count 24 = .ok (.iload 5, 2) := by decide +kernel
theorem dX10_count_26 : decode cX10_count 26 = .ok (.baload, 1) := by decide +kernel
theorem dX10_count_27 : decode cX10_count 27 = .ok (.invokestatic 155, 3) := by decide +kernel
theorem dX10_count_30 : decode cX10_count 30 = .ok (.iadd, 1) := by decide +kernel
theorem dX10_count_31 : decode cX10_count 31 = .ok (.istore_n 2, 1) := by decide +kernel
theorem dX10_count_32 : decode cX10_count 32 = .ok (.iload_n 3, 1) := by decide +kernel
theorem dX10_count_33 : decode cX10_count 33 = .ok (.aload_n 0, 1) := by decide +kernel
theorem dX10_count_34 : decode cX10_count 34 = .ok (.iload 5, 2) := by decide +kernel
theorem dX10_count_36 : decode cX10_count 36 = .ok (.invokevirtual 186, 3) := by decide +kernel
theorem dX10_count_39 : decode cX10_count 39 = .ok (.invokestatic 155, 3) := by decide +kernel
theorem dX10_count_42 : decode cX10_count 42 = .ok (.iadd, 1) := by decide +kernel
theorem dX10_count_43 : decode cX10_count 43 = .ok (.istore_n 3, 1) := by decide +kernel
theorem dX10_count_44 : decode cX10_count 44 = .ok (.iload 4, 2) := by decide +kernel
theorem dX10_count_46 : decode cX10_count 46 = .ok (.aload_n 0, 1) := by decide +kernel
theorem dX10_count_47 : decode cX10_count 47 = .ok (.iload 5, 2) := by decide +kernel
theorem dX10_count_49 : decode cX10_count 49 = .ok (.invokevirtual 189, 3) := by decide +kernel
theorem dX10_count_52 : decode cX10_count 52 = .ok (.invokestatic 155, 3) := by decide +kernel
theorem dX10_count_55 : decode cX10_count 55 = .ok (.iadd, 1) := by decide +kernel
theorem dX10_count_56 : decode cX10_count 56 = .ok (.istore 4, 2) := by decide +kernel
theorem dX10_count_58 : decode cX10_count 58 = .ok (.iinc 5 1, 3) := by decide +kernel
theorem dX10_count_61 : decode cX10_count 61 = .ok (.goto (-51), 3) := by decide +kernel
theorem dX10_count_64 : decode cX10_count 64 = .ok (.iload_n 1, 1) := by decide +kernel
theorem dX10_count_65 : decode cX10_count 65 = .ok (.tableswitch 99 0 9 #[55, 60, 62, 68, 74, 79, 84, 89, 94, 96], 55) := by decide +kernel
theorem dX10_count_120 : decode cX10_count 120 = .ok (.aload_n 0, 1) := by decide +kernel
theorem dX10_count_121 : decode cX10_count 121 = .ok (.getfield 114, 3) := by decide +kernel
theorem dX10_count_124 : decode cX10_count 124 = .ok (.ireturn, 1) := by decide +kernel
theorem dX10_count_125 : decode cX10_count 125 = .ok (.iload_n 2, 1) := by decide +kernel
theorem dX10_count_126 : decode cX10_count 126 = .ok (.ireturn, 1) := by decide +kernel
theorem dX10_count_127 : decode cX10_count 127 = .ok (.aload_n 0, 1) := by decide +kernel
theorem dX10_count_128 : decode cX10_count 128 = .ok (.iconst 0, 1) := by decide +kernel
theorem dX10_count_129 : decode cX10_count 129 = .ok (.invokevirtual 192, 3) := by decide +kernel
theorem dX10_count_132 : decode cX10_count 132 = .ok (.ireturn, 1) := by decide +kernel
theorem dX10_count_133 : decode cX10_count 133 = .ok (.aload_n 0, 1) := by decide +kernel
theorem dX10_count_134 : decode cX10_count 134 = .ok (.iconst 1, 1) := by decide +kernel
theorem dX10_count_135 : decode cX10_count 135 = .ok (.invokevirtual 192, 3) := by decide +kernel
theorem dX10_count_138 : decode cX10_count 138 = .ok (.ireturn, 1) := by decide +kernel
theorem dX10_count_139 : decode cX10_count 139 = .ok (.aload_n 0, 1) := by decide +kernel
theorem dX10_count_140 : decode cX10_count 140 = .ok (.getfield 195, 3) := by decide +kernel
theorem dX10_count_143 : decode cX10_count 143 = .ok (.ireturn, 1) := by decide +kernel
theorem dX10_count_144 : decode cX10_count 144 = .ok (.aload_n 0, 1) := by decide +kernel
theorem dX10_count_145 : decode cX10_count 145 = .ok (.invokevirtual 198, 3) := by decide +kernel
theorem dX10_count_148 : decode cX10_count 148 = .ok (.ireturn, 1) := by decide +kernel
theorem dX10_count_149 : decode cX10_count 149 = .ok (.aload_n 0, 1) := by decide +kernel
theorem dX10_count_150 : decode cX10_count 150 = .ok (.getfield 202, 3) := by decide +kernel
theorem dX10_count_153 : decode cX10_count 153 = .ok (.ireturn, 1) := by decide +kernel
theorem dX10_count_154 : decode cX10_count 154 = .ok (.aload_n 0, 1) := by decide +kernel
theorem dX10_count_155 : decode cX10_count 155 = .ok (.getfield 111, 3) := by decide +kernel
theorem dX10_count_158 : decode cX10_count 158 = .ok (.ireturn, 1) := by decide +kernel
theorem dX10_count_159 : decode cX10_count 159 = .ok (.iload_n 3, 1) := by decide +kernel
theorem dX10_count_160 : decode cX10_count 160 = .ok (.ireturn, 1) := by decide +kernel
theorem dX10_count_161 : decode cX10_count 161 = .ok (.iload 4, 2) := by decide +kernel
theorem dX10_count_163 : decode cX10_count 163 = .ok (.ireturn, 1) := by decide +kernel
theorem dX10_count_164 : decode cX10_count 164 = .ok (.sipush (-1002), 3) := by decide +kernel
theorem dX10_count_167 : decode cX10_count 167 = .ok (.ireturn, 1) := by decide +kernel
theorem dX10_feed_0 : decode cX10_feed 0 = .ok (.iload_n 1, 1) := by decide +kernel
theorem dX10_feed_1 : decode cX10_feed 1 = .ok (.i2l, 1) := by decide +kernel
theorem dX10_feed_2 : decode cX10_feed 2 = .ok (.lconst 1, 1) := by decide +kernel
theorem dX10_feed_3 : decode cX10_feed 3 = .ok (.ldc2_w 205, 3) := by decide +kernel
theorem dX10_feed_6 : decode cX10_feed 6 = .ok (.invokestatic 117, 3) := by decide +kernel
theorem dX10_feed_9 : decode cX10_feed 9 = .ok (.ifCond .ne 7, 3) := by decide +kernel
theorem dX10_feed_12 : decode cX10_feed 12 = .ok (.sipush (-1002), 3) := by decide +kernel
theorem dX10_feed_15 : decode cX10_feed 15 = .ok (.ireturn, 1) := by decide +kernel
theorem dX10_feed_16 : decode cX10_feed 16 = .ok (.aload_n 0, 1) := by decide +kernel
theorem dX10_feed_17 : decode cX10_feed 17 = .ok (.getfield 202, 3) := by decide +kernel
theorem dX10_feed_20 : decode cX10_feed 20 = .ok (.iload_n 1, 1) := by decide +kernel
theorem dX10_feed_21 : decode cX10_feed 21 = .ok (.iadd, 1) := by decide +kernel
theorem dX10_feed_22 : decode cX10_feed 22 = .ok (.bipush 100, 2) := by decide +kernel
theorem dX10_feed_24 : decode cX10_feed 24 = .ok (.if_icmp .le 7, 3) := by decide +kernel
theorem dX10_feed_27 : decode cX10_feed 27 = .ok (.sipush (-1004), 3) := by decide +kernel
theorem dX10_feed_30 : decode cX10_feed 30 = .ok (.ireturn, 1) := by decide +kernel
theorem dX10_feed_31 : decode cX10_feed 31 = .ok (.iload_n 1, 1) := by decide +kernel
theorem dX10_feed_32 : decode cX10_feed 32 = .ok (.iconst 1, 1) := by decide +kernel
theorem dX10_feed_33 : decode cX10_feed 33 = .ok (.isub, 1) := by decide +kernel
theorem dX10_feed_34 : decode cX10_feed 34 = .ok (.istore 4, 2) := by decide +kernel
theorem dX10_feed_36 : decode cX10_feed 36 = .ok (.iload 4, 2) := by decide +kernel
theorem dX10_feed_38 : decode cX10_feed 38 = .ok (.ifCond .lt 40, 3) := by decide +kernel
theorem dX10_feed_41 : decode cX10_feed 41 = .ok (.aload_n 0, 1) := by decide +kernel
theorem dX10_feed_42 : decode cX10_feed 42 = .ok (.getfield 44, 3) := by decide +kernel
theorem dX10_feed_45 : decode cX10_feed 45 = .ok (.aload_n 0, 1) := by decide +kernel
theorem dX10_feed_46 : decode cX10_feed 46 = .ok (.getfield 202, 3) := by decide +kernel
theorem dX10_feed_49 : decode cX10_feed 49 = .ok (.lload_n 2, 1) := by decide +kernel
theorem dX10_feed_50 : decode cX10_feed 50 = .ok (.bipush 8, 2) := by decide +kernel
theorem dX10_feed_52 : decode cX10_feed 52 = .ok (.iload 4, 2) := by decide +kernel
theorem dX10_feed_54 : decode cX10_feed 54 = .ok (.imul, 1) := by decide +kernel
theorem dX10_feed_55 : decode cX10_feed 55 = .ok (.lshr, 1) := by decide +kernel
theorem dX10_feed_56 : decode cX10_feed 56 = .ok (.ldc2_w 207, 3) := by decide +kernel
theorem dX10_feed_59 : decode cX10_feed 59 = .ok (.land, 1) := by decide +kernel
theorem dX10_feed_60 : decode cX10_feed 60 = .ok (.l2i, 1) := by decide +kernel
theorem dX10_feed_61 : decode cX10_feed 61 = .ok (.iastore, 1) := by decide +kernel
theorem dX10_feed_62 : decode cX10_feed 62 = .ok (.aload_n 0, 1) := by decide +kernel
theorem dX10_feed_63 : decode cX10_feed 63 = .ok (.dup, 1) := by decide +kernel
theorem dX10_feed_64 : decode cX10_feed 64 = .ok (.getfield 202, 3) := by decide +kernel
theorem dX10_feed_67 : decode cX10_feed 67 = .ok (.iconst 1, 1) := by decide +kernel
theorem dX10_feed_68 : decode cX10_feed 68 = .ok (.iadd, 1) := by decide +kernel
theorem dX10_feed_69 : decode cX10_feed 69 = .ok (.putfield 202, 3) := by decide +kernel
theorem dX10_feed_72 : decode cX10_feed 72 = .ok (.iinc 4 (-1), 3) := by decide +kernel
theorem dX10_feed_75 : decode cX10_feed 75 = .ok (.goto (-39), 3) := by decide +kernel
theorem dX10_feed_78 : decode cX10_feed 78 = .ok (.aload_n 0, 1) := by decide +kernel
theorem dX10_feed_79 : decode cX10_feed 79 = .ok (.getfield 202, 3) := by decide +kernel
theorem dX10_feed_82 : decode cX10_feed 82 = .ok (.ireturn, 1) := by decide +kernel
theorem dX10_here_0 : decode cX10_here 0 = .ok (.aload_n 0, 1) := by decide +kernel
theorem dX10_here_1 : decode cX10_here 1 = .ok (.getfield 209, 3) := by decide +kernel
theorem dX10_here_4 : decode cX10_here 4 = .ok (.iload_n 1, 1) := by decide +kernel
theorem dX10_here_5 : decode cX10_here 5 = .ok (.if_icmp .ge 30, 3) := by decide +kernel
theorem dX10_here_8 : decode cX10_here 8 = .ok (.aload_n 0, 1) := by decide +kernel
theorem dX10_here_9 : decode cX10_here 9 = .ok (.getfield 44, 3) := by decide +kernel
theorem dX10_here_12 : decode cX10_here 12 = .ok (.aload_n 0, 1) := by decide +kernel
theorem dX10_here_13 : decode cX10_here 13 = .ok (.getfield 209, 3) := by decide +kernel
theorem dX10_here_16 : decode cX10_here 16 = .ok (.iaload, 1) := by decide +kernel
theorem dX10_here_17 : decode cX10_here 17 = .ok (.bipush 32, 2) := by decide +kernel
theorem dX10_here_19 : decode cX10_here 19 = .ok (.if_icmp .ne 16, 3) := by decide +kernel
theorem dX10_here_22 : decode cX10_here 22 = .ok (.aload_n 0, 1) := by decide +kernel
theorem dX10_here_23 : decode cX10_here 23 = .ok (.dup, 1) := by decide +kernel
theorem dX10_here_24 : decode cX10_here 24 = .ok (.getfield 209, 3) := by decide +kernel
theorem dX10_here_27 : decode cX10_here 27 = .ok (.iconst 1, 1) := by decide +kernel
theorem dX10_here_28 : decode cX10_here 28 = .ok (.iadd, 1) := by decide +kernel
theorem dX10_here_29 : decode cX10_here 29 = .ok (.putfield 209, 3) := by decide +kernel
theorem dX10_here_32 : decode cX10_here 32 = .ok (.goto (-32), 3) := by decide +kernel
theorem dX10_here_35 : decode cX10_here 35 = .ok (.aload_n 0, 1) := by decide +kernel
theorem dX10_here_36 : decode cX10_here 36 = .ok (.getfield 209, 3) := by decide +kernel
theorem dX10_here_39 : decode cX10_here 39 = .ok (.iload_n 1, 1) := by decide +kernel
theorem dX10_here_40 : decode cX10_here 40 = .ok (.if_icmp .ge 15, 3) := by decide +kernel
theorem dX10_here_43 : decode cX10_here 43 = .ok (.aload_n 0, 1) := by decide +kernel
theorem dX10_here_44 : decode cX10_here 44 = .ok (.getfield 44, 3) := by decide +kernel
theorem dX10_here_47 : decode cX10_here 47 = .ok (.aload_n 0, 1) := by decide +kernel
theorem dX10_here_48 : decode cX10_here 48 = .ok (.getfield 209, 3) := by decide +kernel
theorem dX10_here_51 : decode cX10_here 51 = .ok (.iaload, 1) := by decide +kernel
theorem dX10_here_52 : decode cX10_here 52 = .ok (.goto 4, 3) := by decide +kernel
theorem dX10_here_55 : decode cX10_here 55 = .ok (.iconst (-1), 1) := by decide +kernel
theorem dX10_here_56 : decode cX10_here 56 = .ok (.ireturn, 1) := by decide +kernel
theorem dX10_want_0 : decode cX10_want 0 = .ok (.iload_n 1, 1) := by decide +kernel
theorem dX10_want_1 : decode cX10_want 1 = .ok (.ifCond .ne 20, 3) := by decide +kernel
theorem dX10_want_4 : decode cX10_want 4 = .ok (.aload_n 0, 1) := by decide +kernel
theorem dX10_want_5 : decode cX10_want 5 = .ok (.getfield 212, 3) := by decide +kernel
theorem dX10_want_8 : decode cX10_want 8 = .ok (.ifCond .ne 13, 3) := by decide +kernel
theorem dX10_want_11 : decode cX10_want 11 = .ok (.aload_n 0, 1) := by decide +kernel
theorem dX10_want_12 : decode cX10_want 12 = .ok (.iload_n 2, 1) := by decide +kernel
theorem dX10_want_13 : decode cX10_want 13 = .ok (.putfield 212, 3) := by decide +kernel
theorem dX10_want_16 : decode cX10_want 16 = .ok (.aload_n 0, 1) := by decide +kernel
theorem dX10_want_17 : decode cX10_want 17 = .ok (.iload_n 3, 1) := by decide +kernel
theorem dX10_want_18 : decode cX10_want 18 = .ok (.putfield 47, 3) := by decide +kernel
theorem dX10_want_21 : decode cX10_want 21 = .ok (.aload_n 0, 1) := by decide +kernel
theorem dX10_want_22 : decode cX10_want 22 = .ok (.getfield 212, 3) := by decide +kernel
theorem dX10_want_25 : decode cX10_want 25 = .ok (.ifCond .ne 7, 3) := by decide +kernel
theorem dX10_want_28 : decode cX10_want 28 = .ok (.iconst 1, 1) := by decide +kernel
theorem dX10_want_29 : decode cX10_want 29 = .ok (.goto 4, 3) := by decide +kernel
theorem dX10_want_32 : decode cX10_want 32 = .ok (.iconst 0, 1) := by decide +kernel
theorem dX10_want_33 : decode cX10_want 33 = .ok (.ireturn, 1) := by decide +kernel
theorem dX10_takeWord_0 : decode cX10_takeWord 0 = .ok (.aload_n 0, 1) := by decide +kernel
theorem dX10_takeWord_1 : decode cX10_takeWord 1 = .ok (.iload_n 1, 1) := by decide +kernel
theorem dX10_takeWord_2 : decode cX10_takeWord 2 = .ok (.invokevirtual 215, 3) := by decide +kernel
theorem dX10_takeWord_5 : decode cX10_takeWord 5 = .ok (.istore_n 2, 1) := by decide +kernel
theorem dX10_takeWord_6 : decode cX10_takeWord 6 = .ok (.aload_n 0, 1) := by decide +kernel
theorem dX10_takeWord_7 : decode cX10_takeWord 7 = .ok (.aload_n 0, 1) := by decide +kernel
theorem dX10_takeWord_8 : decode cX10_takeWord 8 = .ok (.getfield 209, 3) := by decide +kernel
theorem dX10_takeWord_11 : decode cX10_takeWord 11 = .ok (.putfield 218, 3) := by decide +kernel
theorem dX10_takeWord_14 : decode cX10_takeWord 14 = .ok (.aload_n 0, 1) := by decide +kernel
theorem dX10_takeWord_15 : decode cX10_takeWord 15 = .ok (.getfield 209, 3) := by decide +kernel
theorem dX10_takeWord_18 : decode cX10_takeWord 18 = .ok (.iload_n 1, 1) := by decide +kernel
theorem dX10_takeWord_19 : decode cX10_takeWord 19 = .ok (.if_icmp .ge 38, 3) := by decide +kernel
theorem dX10_takeWord_22 : decode cX10_takeWord 22 = .ok (.aload_n 0, 1) := by decide +kernel
theorem dX10_takeWord_23 : decode cX10_takeWord 23 = .ok (.getfield 44, 3) := by decide +kernel
theorem dX10_takeWord_26 : decode cX10_takeWord 26 = .ok (.aload_n 0, 1) := by decide +kernel
theorem dX10_takeWord_27 : decode cX10_takeWord 27 = .ok (.getfield 209, 3) := by decide +kernel
theorem dX10_takeWord_30 : decode cX10_takeWord 30 = .ok (.iaload, 1) := by decide +kernel
theorem dX10_takeWord_31 : decode cX10_takeWord 31 = .ok (.i2l, 1) := by decide +kernel
theorem dX10_takeWord_32 : decode cX10_takeWord 32 = .ok (.ldc2_w 221, 3) := by decide +kernel
theorem dX10_takeWord_35 : decode cX10_takeWord 35 = .ok (.ldc2_w 223, 3) := by decide +kernel
theorem dX10_takeWord_38 : decode cX10_takeWord 38 = .ok (.invokestatic 117, 3) := by decide +kernel
theorem dX10_takeWord_41 : decode cX10_takeWord 41 = .ok (.ifCond .eq 16, 3) := by decide +kernel
theorem dX10_takeWord_44 : decode cX10_takeWord 44 = .ok (.aload_n 0, 1) := by decide +kernel
theorem dX10_takeWord_45 : decode cX10_takeWord 45 = .ok (.dup, 1) := by decide +kernel
theorem dX10_takeWord_46 : decode cX10_takeWord 46 = .ok (.getfield 209, 3) := by decide +kernel
theorem dX10_takeWord_49 : decode cX10_takeWord 49 = .ok (.iconst 1, 1) := by decide +kernel
theorem dX10_takeWord_50 : decode cX10_takeWord 50 = .ok (.iadd, 1) := by decide +kernel
theorem dX10_takeWord_51 : decode cX10_takeWord 51 = .ok (.putfield 209, 3) := by decide +kernel
theorem dX10_takeWord_54 : decode cX10_takeWord 54 = .ok (.goto (-40), 3) := by decide +kernel
theorem dX10_takeWord_57 : decode cX10_takeWord 57 = .ok (.aload_n 0, 1) := by decide +kernel
theorem dX10_takeWord_58 : decode cX10_takeWord 58 = .ok (.aload_n 0, 1) := by decide +kernel
theorem dX10_takeWord_59 : decode cX10_takeWord 59 = .ok (.getfield 209, 3) := by decide +kernel
theorem dX10_takeWord_62 : decode cX10_takeWord 62 = .ok (.aload_n 0, 1) := by decide +kernel
theorem dX10_takeWord_63 : decode cX10_takeWord 63 = .ok (.getfield 218, 3) := by decide +kernel
theorem dX10_takeWord_66 : decode cX10_takeWord 66 = .ok (.isub, 1) := by decide +kernel
theorem dX10_takeWord_67 : decode cX10_takeWord 67 = .ok (.putfield 225, 3) := by decide +kernel
theorem dX10_takeWord_70 : decode cX10_takeWord 70 = .ok (.return_, 1) := by decide +kernel
theorem dX10_isWord_0 : decode cX10_isWord 0 = .ok (.lconst 0, 1) := by decide +kernel
theorem dX10_isWord_1 : decode cX10_isWord 1 = .ok (.lstore 4, 2) := by decide +kernel
theorem dX10_isWord_3 : decode cX10_isWord 3 = .ok (.iconst 0, 1) := by decide +kernel
theorem dX10_isWord_4 : decode cX10_isWord 4 = .ok (.istore 6, 2) := by decide +kernel
theorem dX10_isWord_6 : decode cX10_isWord 6 = .ok (.iload 6, 2) := by decide +kernel
theorem dX10_isWord_8 : decode cX10_isWord 8 = .ok (.aload_n 0, 1) := by decide +kernel
theorem dX10_isWord_9 : decode cX10_isWord 9 = .ok (.getfield 225, 3) := by decide +kernel
theorem dX10_isWord_12 : decode cX10_isWord 12 = .ok (.if_icmp .ge 42, 3) := by decide +kernel
theorem dX10_isWord_15 : decode cX10_isWord 15 = .ok (.iload 6, 2) := by decide +kernel
theorem dX10_isWord_17 : decode cX10_isWord 17 = .ok (.bipush 9, 2) := by decide +kernel
theorem dX10_isWord_19 : decode cX10_isWord 19 = .ok (.if_icmp .ge 35, 3) := by decide +kernel
theorem dX10_isWord_22 : decode cX10_isWord 22 = .ok (.ldc2_w 228, 3) := by decide +kernel
theorem dX10_isWord_25 : decode cX10_isWord 25 = .ok (.lload 4, 2) := by decide +kernel
theorem dX10_isWord_27 : decode cX10_isWord 27 = .ok (.lmul, 1) := by decide +kernel
theorem dX10_isWord_28 : decode cX10_isWord 28 = .ok (.aload_n 0, 1) := by decide +kernel
theorem dX10_isWord_29 : decode cX10_isWord 29 = .ok (.getfield 44, 3) := by decide +kernel
theorem dX10_isWord_32 : decode cX10_isWord 32 = .ok (.aload_n 0, 1) := by decide +kernel
theorem dX10_isWord_33 : decode cX10_isWord 33 = .ok (.getfield 218, 3) := by decide +kernel
theorem dX10_isWord_36 : decode cX10_isWord 36 = .ok (.iload 6, 2) := by decide +kernel
theorem dX10_isWord_38 : decode cX10_isWord 38 = .ok (.iadd, 1) := by decide +kernel
theorem dX10_isWord_39 : decode cX10_isWord 39 = .ok (.iaload, 1) := by decide +kernel
theorem dX10_isWord_40 : decode cX10_isWord 40 = .ok (.i2l, 1) := by decide +kernel
theorem dX10_isWord_41 : decode cX10_isWord 41 = .ok (.ladd, 1) := by decide +kernel
theorem dX10_isWord_42 : decode cX10_isWord 42 = .ok (.ldc2_w 230, 3) := by decide +kernel
theorem dX10_isWord_45 : decode cX10_isWord 45 = .ok (.lsub, 1) := by decide +kernel
theorem dX10_isWord_46 : decode cX10_isWord 46 = .ok (.lstore 4, 2) := by decide +kernel
theorem dX10_isWord_48 : decode cX10_isWord 48 = .ok (.iinc 6 1, 3) := by decide +kernel
theorem dX10_isWord_51 : decode cX10_isWord 51 = .ok (.goto (-45), 3) := by decide +kernel
theorem dX10_isWord_54 : decode cX10_isWord 54 = .ok (.aload_n 0, 1) := by decide +kernel
theorem dX10_isWord_55 : decode cX10_isWord 55 = .ok (.getfield 225, 3) := by decide +kernel
theorem dX10_isWord_58 : decode cX10_isWord 58 = .ok (.iload_n 3, 1) := by decide +kernel
theorem dX10_isWord_59 : decode cX10_isWord 59 = .ok (.if_icmp .ne 14, 3) := by decide +kernel
theorem dX10_isWord_62 : decode cX10_isWord 62 = .ok (.lload 4, 2) := by decide +kernel
theorem dX10_isWord_64 : decode cX10_isWord 64 = .ok (.lload_n 1, 1) := by decide +kernel
theorem dX10_isWord_65 : decode cX10_isWord 65 = .ok (.lcmp, 1) := by decide +kernel
theorem dX10_isWord_66 : decode cX10_isWord 66 = .ok (.ifCond .ne 7, 3) := by decide +kernel
theorem dX10_isWord_69 : decode cX10_isWord 69 = .ok (.iconst 1, 1) := by decide +kernel
theorem dX10_isWord_70 : decode cX10_isWord 70 = .ok (.goto 4, 3) := by decide +kernel
theorem dX10_isWord_73 : decode cX10_isWord 73 = .ok (.iconst 0, 1) := by decide +kernel
theorem dX10_isWord_74 : decode cX10_isWord 74 = .ok (.ireturn, 1) := by decide +kernel
theorem dX10_word5_0 : decode cX10_word5 0 = .ok (.iload_n 0, 1) := by decide +kernel
theorem dX10_word5_1 : decode cX10_word5 1 = .ok (.i2l, 1) := by decide +kernel
theorem dX10_word5_2 : decode cX10_word5 2 = .ok (.ldc2_w 228, 3) := by decide +kernel
theorem dX10_word5_5 : decode cX10_word5 5 = .ok (.lmul, 1) := by decide +kernel
theorem dX10_word5_6 : decode cX10_word5 6 = .ok (.iload_n 1, 1) := by decide +kernel
theorem dX10_word5_7 : decode cX10_word5 7 = .ok (.i2l, 1) := by decide +kernel
theorem dX10_word5_8 : decode cX10_word5 8 = .ok (.ladd, 1) := by decide +kernel
theorem dX10_word5_9 : decode cX10_word5 9 = .ok (.ldc2_w 228, 3) := by decide +kernel
theorem dX10_word5_12 : decode cX10_word5 12 = .ok (.lmul, 1) := by decide +kernel
theorem dX10_word5_13 : decode cX10_word5 13 = .ok (.iload_n 2, 1) := by decide +kernel
theorem dX10_word5_14 : decode cX10_word5 14 = .ok (.i2l, 1) := by decide +kernel
theorem dX10_word5_15 : decode cX10_word5 15 = .ok (.ladd, 1) := by decide +kernel
theorem dX10_word5_16 : decode cX10_word5 16 = .ok (.ldc2_w 228, 3) := by decide +kernel
theorem dX10_word5_19 : decode cX10_word5 19 = .ok (.lmul, 1) := by decide +kernel
theorem dX10_word5_20 : decode cX10_word5 20 = .ok (.iload_n 3, 1) := by decide +kernel
theorem dX10_word5_21 : decode cX10_word5 21 = .ok (.i2l, 1) := by decide +kernel
theorem dX10_word5_22 : decode cX10_word5 22 = .ok (.ladd, 1) := by decide +kernel
theorem dX10_word5_23 : decode cX10_word5 23 = .ok (.ldc2_w 228, 3) := by decide +kernel
theorem dX10_word5_26 : decode cX10_word5 26 = .ok (.lmul, 1) := by decide +kernel
theorem dX10_word5_27 : decode cX10_word5 27 = .ok (.iload 4, 2) := by decide +kernel
theorem dX10_word5_29 : decode cX10_word5 29 = .ok (.i2l, 1) := by decide +kernel
theorem dX10_word5_30 : decode cX10_word5 30 = .ok (.ladd, 1) := by decide +kernel
theorem dX10_word5_31 : decode cX10_word5 31 = .ok (.lreturn, 1) := by decide +kernel
theorem dX10_clauseOf_0 : decode cX10_clauseOf 0 = .ok (.aload_n 0, 1) := by decide +kernel
theorem dX10_clauseOf_1 : decode cX10_clauseOf 1 = .ok (.bipush 18, 2) := by decide +kernel
theorem dX10_clauseOf_3 : decode cX10_clauseOf 3 = .ok (.bipush 9, 2) := by decide +kernel
theorem dX10_clauseOf_5 : decode cX10_clauseOf 5 = .ok (.bipush 14, 2) := by decide +kernel
theorem dX10_clauseOf_7 : decode cX10_clauseOf 7 = .ok (.bipush 7, 2) := by decide +kernel
theorem dX10_clauseOf_9 : decode cX10_clauseOf 9 = .ok (.iconst 5, 1) := by decide +kernel
theorem dX10_clauseOf_10 : decode cX10_clauseOf 10 = .ok (.invokestatic 232, 3) := by decide +kernel
theorem dX10_clauseOf_13 : decode cX10_clauseOf 13 = .ok (.ldc2_w 228, 3) := by decide +kernel
theorem dX10_clauseOf_16 : decode cX10_clauseOf 16 = .ok (.lmul, 1) := by decide +kernel
theorem dX10_clauseOf_17 : decode cX10_clauseOf 17 = .ok (.ldc2_w 236, 3) := by decide +kernel
theorem dX10_clauseOf_20 : decode cX10_clauseOf 20 = .ok (.ladd, 1) := by decide +kernel
theorem dX10_clauseOf_21 : decode cX10_clauseOf 21 = .ok (.ldc2_w 230, 3) := by decide +kernel
theorem dX10_clauseOf_24 : decode cX10_clauseOf 24 = .ok (.lsub, 1) := by decide +kernel
theorem dX10_clauseOf_25 : decode cX10_clauseOf 25 = .ok (.bipush 6, 2) := by decide +kernel
theorem dX10_clauseOf_27 : decode cX10_clauseOf 27 = .ok (.invokevirtual 238, 3) := by decide +kernel
theorem dX10_clauseOf_30 : decode cX10_clauseOf 30 = .ok (.ifCond .eq 5, 3) := by decide +kernel
theorem dX10_clauseOf_33 : decode cX10_clauseOf 33 = .ok (.iconst 0, 1) := by decide +kernel
theorem dX10_clauseOf_34 : decode cX10_clauseOf 34 = .ok (.ireturn, 1) := by decide +kernel
theorem dX10_clauseOf_35 : decode cX10_clauseOf 35 = .ok (.aload_n 0, 1) := by decide +kernel
theorem dX10_clauseOf_36 : decode cX10_clauseOf 36 = .ok (.iconst 0, 1) := by decide +kernel
theorem dX10_clauseOf_37 : decode cX10_clauseOf 37 = .ok (.bipush 14, 2) := by decide +kernel
theorem dX10_clauseOf_39 : decode cX10_clauseOf 39 = .ok (.iconst 5, 1) := by decide +kernel
theorem dX10_clauseOf_40 : decode cX10_clauseOf 40 = .ok (.iconst 1, 1) := by decide +kernel
theorem dX10_clauseOf_41 : decode cX10_clauseOf 41 = .ok (.bipush 18, 2) := by decide +kernel
theorem dX10_clauseOf_43 : decode cX10_clauseOf 43 = .ok (.invokestatic 232, 3) := by decide +kernel
theorem dX10_clauseOf_46 : decode cX10_clauseOf 46 = .ok (.iconst 4, 1) := by decide +kernel
theorem dX10_clauseOf_47 : decode cX10_clauseOf 47 = .ok (.invokevirtual 238, 3) := by decide +kernel
theorem dX10_clauseOf_50 : decode cX10_clauseOf 50 = .ok (.ifCond .eq 5, 3) := by decide +kernel
theorem dX10_clauseOf_53 : decode cX10_clauseOf 53 = .ok (.iconst 1, 1) := by decide +kernel
theorem dX10_clauseOf_54 : decode cX10_clauseOf 54 = .ok (.ireturn, 1) := by decide +kernel
theorem dX10_clauseOf_55 : decode cX10_clauseOf 55 = .ok (.aload_n 0, 1) := by decide +kernel
theorem dX10_clauseOf_56 : decode cX10_clauseOf 56 = .ok (.iconst 0, 1) := by decide +kernel
theorem dX10_clauseOf_57 : decode cX10_clauseOf 57 = .ok (.bipush 13, 2) := by decide +kernel
theorem dX10_clauseOf_59 : decode cX10_clauseOf 59 = .ok (.bipush 15, 2) := by decide +kernel
theorem dX10_clauseOf_61 : decode cX10_clauseOf 61 = .ok (.bipush 19, 2) := by decide +kernel
theorem dX10_clauseOf_63 : decode cX10_clauseOf 63 = .ok (.bipush 20, 2) := by decide +kernel
theorem dX10_clauseOf_65 : decode cX10_clauseOf 65 = .ok (.invokestatic 232, 3) := by decide +kernel
theorem dX10_clauseOf_68 : decode cX10_clauseOf 68 = .ok (.iconst 4, 1) := by decide +kernel
theorem dX10_clauseOf_69 : decode cX10_clauseOf 69 = .ok (.invokevirtual 238, 3) := by decide +kernel
theorem dX10_clauseOf_72 : decode cX10_clauseOf 72 = .ok (.ifCond .eq 5, 3) := by decide +kernel
theorem dX10_clauseOf_75 : decode cX10_clauseOf 75 = .ok (.iconst 2, 1) := by decide +kernel
theorem dX10_clauseOf_76 : decode cX10_clauseOf 76 = .ok (.ireturn, 1) := by decide +kernel
theorem dX10_clauseOf_77 : decode cX10_clauseOf 77 = .ok (.aload_n 0, 1) := by decide +kernel
theorem dX10_clauseOf_78 : decode cX10_clauseOf 78 = .ok (.bipush 13, 2) := by decide +kernel
theorem dX10_clauseOf_80 : decode cX10_clauseOf 80 = .ok (.iconst 5, 1) := by decide +kernel
theorem dX10_clauseOf_81 : decode cX10_clauseOf 81 = .ok (.iconst 1, 1) := by decide +kernel
theorem dX10_clauseOf_82 : decode cX10_clauseOf 82 = .ok (.bipush 19, 2) := by decide +kernel
theorem dX10_clauseOf_84 : decode cX10_clauseOf 84 = .ok (.bipush 21, 2) := by decide +kernel
theorem dX10_clauseOf_86 : decode cX10_clauseOf 86 = .ok (.invokestatic 232, 3) := by decide +kernel
theorem dX10_clauseOf_89 : decode cX10_clauseOf 89 = .ok (.ldc2_w 228, 3) := by decide +kernel
theorem dX10_clauseOf_92 : decode cX10_clauseOf 92 = .ok (.lmul, 1) := by decide +kernel
theorem dX10_clauseOf_93 : decode cX10_clauseOf 93 = .ok (.ldc2_w 236, 3) := by decide +kernel
theorem dX10_clauseOf_96 : decode cX10_clauseOf 96 = .ok (.ladd, 1) := by decide +kernel
theorem dX10_clauseOf_97 : decode cX10_clauseOf 97 = .ok (.ldc2_w 230, 3) := by decide +kernel
theorem dX10_clauseOf_100 : decode cX10_clauseOf 100 = .ok (.lsub, 1) := by decide +kernel
theorem dX10_clauseOf_101 : decode cX10_clauseOf 101 = .ok (.ldc2_w 228, 3) := by decide +kernel
theorem dX10_clauseOf_104 : decode cX10_clauseOf 104 = .ok (.lmul, 1) := by decide +kernel
theorem dX10_clauseOf_105 : decode cX10_clauseOf 105 = .ok (.ldc2_w 242, 3) := by decide +kernel
theorem dX10_clauseOf_108 : decode cX10_clauseOf 108 = .ok (.ladd, 1) := by decide +kernel
theorem dX10_clauseOf_109 : decode cX10_clauseOf 109 = .ok (.ldc2_w 230, 3) := by decide +kernel
theorem dX10_clauseOf_112 : decode cX10_clauseOf 112 = .ok (.lsub, 1) := by decide +kernel
theorem dX10_clauseOf_113 : decode cX10_clauseOf 113 = .ok (.bipush 7, 2) := by decide +kernel
theorem dX10_clauseOf_115 : decode cX10_clauseOf 115 = .ok (.invokevirtual 238, 3) := by decide +kernel
theorem dX10_clauseOf_118 : decode cX10_clauseOf 118 = .ok (.ifCond .eq 5, 3) := by decide +kernel
theorem dX10_clauseOf_121 : decode cX10_clauseOf 121 = .ok (.iconst 3, 1) := by decide +kernel
theorem dX10_clauseOf_122 : decode cX10_clauseOf 122 = .ok (.ireturn, 1) := by decide +kernel
theorem dX10_clauseOf_123 : decode cX10_clauseOf 123 = .ok (.aload_n 0, 1) := by decide +kernel
theorem dX10_clauseOf_124 : decode cX10_clauseOf 124 = .ok (.iconst 0, 1) := by decide +kernel
theorem dX10_clauseOf_125 : decode cX10_clauseOf 125 = .ok (.bipush 7, 2) := by decide +kernel
theorem dX10_clauseOf_127 : decode cX10_clauseOf 127 = .ok (.iconst 1, 1) := by decide +kernel
theorem dX10_clauseOf_128 : decode cX10_clauseOf 128 = .ok (.bipush 13, 2) := by decide +kernel
theorem dX10_clauseOf_130 : decode cX10_clauseOf 130 = .ok (.iconst 5, 1) := by decide +kernel
theorem dX10_clauseOf_131 : decode cX10_clauseOf 131 = .ok (.invokestatic 232, 3) := by decide +kernel
theorem dX10_clauseOf_134 : decode cX10_clauseOf 134 = .ok (.iconst 4, 1) := by decide +kernel
theorem dX10_clauseOf_135 : decode cX10_clauseOf 135 = .ok (.invokevirtual 238, 3) := by decide +kernel
theorem dX10_clauseOf_138 : decode cX10_clauseOf 138 = .ok (.ifCond .eq 5, 3) := by decide +kernel
theorem dX10_clauseOf_141 : decode cX10_clauseOf 141 = .ok (.iconst 4, 1) := by decide +kernel
theorem dX10_clauseOf_142 : decode cX10_clauseOf 142 = .ok (.ireturn, 1) := by decide +kernel
theorem dX10_clauseOf_143 : decode cX10_clauseOf 143 = .ok (.aload_n 0, 1) := by decide +kernel
theorem dX10_clauseOf_144 : decode cX10_clauseOf 144 = .ok (.iconst 3, 1) := by decide +kernel
theorem dX10_clauseOf_145 : decode cX10_clauseOf 145 = .ok (.iconst 1, 1) := by decide +kernel
theorem dX10_clauseOf_146 : decode cX10_clauseOf 146 = .ok (.bipush 14, 2) := by decide +kernel
theorem dX10_clauseOf_148 : decode cX10_clauseOf 148 = .ok (.iconst 3, 1) := by decide +kernel
theorem dX10_clauseOf_149 : decode cX10_clauseOf 149 = .ok (.iconst 5, 1) := by decide +kernel
theorem dX10_clauseOf_150 : decode cX10_clauseOf 150 = .ok (.invokestatic 232, 3) := by decide +kernel
theorem dX10_clauseOf_153 : decode cX10_clauseOf 153 = .ok (.ldc2_w 228, 3) := by decide +kernel
theorem dX10_clauseOf_156 : decode cX10_clauseOf 156 = .ok (.lmul, 1) := by decide +kernel
theorem dX10_clauseOf_157 : decode cX10_clauseOf 157 = .ok (.ldc2_w 244, 3) := by decide +kernel
theorem dX10_clauseOf_160 : decode cX10_clauseOf 160 = .ok (.ladd, 1) := by decide +kernel
theorem dX10_clauseOf_161 : decode cX10_clauseOf 161 = .ok (.ldc2_w 230, 3) := by decide +kernel
theorem dX10_clauseOf_164 : decode cX10_clauseOf 164 = .ok (.lsub, 1) := by decide +kernel
theorem dX10_clauseOf_165 : decode cX10_clauseOf 165 = .ok (.bipush 6, 2) := by decide +kernel
theorem dX10_clauseOf_167 : decode cX10_clauseOf 167 = .ok (.invokevirtual 238, 3) := by decide +kernel
theorem dX10_clauseOf_170 : decode cX10_clauseOf 170 = .ok (.ifCond .eq 5, 3) := by decide +kernel
theorem dX10_clauseOf_173 : decode cX10_clauseOf 173 = .ok (.iconst 5, 1) := by decide +kernel
theorem dX10_clauseOf_174 : decode cX10_clauseOf 174 = .ok (.ireturn, 1) := by decide +kernel
theorem dX10_clauseOf_175 : decode cX10_clauseOf 175 = .ok (.aload_n 0, 1) := by decide +kernel
theorem dX10_clauseOf_176 : decode cX10_clauseOf 176 = .ok (.iconst 0, 1) := by decide +kernel
theorem dX10_clauseOf_177 : decode cX10_clauseOf 177 = .ok (.iconst 4, 1) := by decide +kernel
theorem dX10_clauseOf_178 : decode cX10_clauseOf 178 = .ok (.bipush 15, 2) := by decide +kernel
theorem dX10_clauseOf_180 : decode cX10_clauseOf 180 = .ok (.bipush 23, 2) := by decide +kernel
theorem dX10_clauseOf_182 : decode cX10_clauseOf 182 = .ok (.bipush 14, 2) := by decide +kernel
theorem dX10_clauseOf_184 : decode cX10_clauseOf 184 = .ok (.invokestatic 232, 3) := by decide +kernel
theorem dX10_clauseOf_187 : decode cX10_clauseOf 187 = .ok (.iconst 4, 1) := by decide +kernel
theorem dX10_clauseOf_188 : decode cX10_clauseOf 188 = .ok (.invokevirtual 238, 3) := by decide +kernel
theorem dX10_clauseOf_191 : decode cX10_clauseOf 191 = .ok (.ifCond .eq 6, 3) := by decide +kernel
theorem dX10_clauseOf_194 : decode cX10_clauseOf 194 = .ok (.bipush 6, 2) := by decide +kernel
theorem dX10_clauseOf_196 : decode cX10_clauseOf 196 = .ok (.ireturn, 1) := by decide +kernel
theorem dX10_clauseOf_197 : decode cX10_clauseOf 197 = .ok (.aload_n 0, 1) := by decide +kernel
theorem dX10_clauseOf_198 : decode cX10_clauseOf 198 = .ok (.bipush 21, 2) := by decide +kernel
theorem dX10_clauseOf_200 : decode cX10_clauseOf 200 = .ok (.bipush 14, 2) := by decide +kernel
theorem dX10_clauseOf_202 : decode cX10_clauseOf 202 = .ok (.iconst 4, 1) := by decide +kernel
theorem dX10_clauseOf_203 : decode cX10_clauseOf 203 = .ok (.iconst 5, 1) := by decide +kernel
theorem dX10_clauseOf_204 : decode cX10_clauseOf 204 = .ok (.bipush 18, 2) := by decide +kernel
theorem dX10_clauseOf_206 : decode cX10_clauseOf 206 = .ok (.invokestatic 232, 3) := by decide +kernel
theorem dX10_clauseOf_209 : decode cX10_clauseOf 209 = .ok (.iconst 5, 1) := by decide +kernel
theorem dX10_clauseOf_210 : decode cX10_clauseOf 210 = .ok (.invokevirtual 238, 3) := by decide +kernel
theorem dX10_clauseOf_213 : decode cX10_clauseOf 213 = .ok (.ifCond .eq 8, 3) := by decide +kernel
theorem dX10_clauseOf_216 : decode cX10_clauseOf 216 = .ok (.bipush 7, 2) := by decide +kernel
theorem dX10_clauseOf_218 : decode cX10_clauseOf 218 = .ok (.goto 4, 3) := by decide +kernel
theorem dX10_clauseOf_221 : decode cX10_clauseOf 221 = .ok (.iconst (-1), 1) := by decide +kernel
theorem dX10_clauseOf_222 : decode cX10_clauseOf 222 = .ok (.ireturn, 1) := by decide +kernel
theorem dX10_valueOf_0 : decode cX10_valueOf 0 = .ok (.iload_n 1, 1) := by decide +kernel
theorem dX10_valueOf_1 : decode cX10_valueOf 1 = .ok (.iconst 5, 1) := by decide +kernel
theorem dX10_valueOf_2 : decode cX10_valueOf 2 = .ok (.if_icmp .ne 83, 3) := by decide +kernel
theorem dX10_valueOf_5 : decode cX10_valueOf 5 = .ok (.aload_n 0, 1) := by decide +kernel
theorem dX10_valueOf_6 : decode cX10_valueOf 6 = .ok (.iconst 0, 1) := by decide +kernel
theorem dX10_valueOf_7 : decode cX10_valueOf 7 = .ok (.bipush 14, 2) := by decide +kernel
theorem dX10_valueOf_9 : decode cX10_valueOf 9 = .ok (.bipush 15, 2) := by decide +kernel
theorem dX10_valueOf_11 : decode cX10_valueOf 11 = .ok (.bipush 14, 2) := by decide +kernel
theorem dX10_valueOf_13 : decode cX10_valueOf 13 = .ok (.iconst 5, 1) := by decide +kernel
theorem dX10_valueOf_14 : decode cX10_valueOf 14 = .ok (.invokestatic 232, 3) := by decide +kernel
theorem dX10_valueOf_17 : decode cX10_valueOf 17 = .ok (.iconst 4, 1) := by decide +kernel
theorem dX10_valueOf_18 : decode cX10_valueOf 18 = .ok (.invokevirtual 238, 3) := by decide +kernel
theorem dX10_valueOf_21 : decode cX10_valueOf 21 = .ok (.istore_n 2, 1) := by decide +kernel
theorem dX10_valueOf_22 : decode cX10_valueOf 22 = .ok (.aload_n 0, 1) := by decide +kernel
theorem dX10_valueOf_23 : decode cX10_valueOf 23 = .ok (.bipush 16, 2) := by decide +kernel
theorem dX10_valueOf_25 : decode cX10_valueOf 25 = .ok (.iconst 1, 1) := by decide +kernel
theorem dX10_valueOf_26 : decode cX10_valueOf 26 = .ok (.bipush 9, 2) := by decide +kernel
theorem dX10_valueOf_28 : decode cX10_valueOf 28 = .ok (.bipush 18, 2) := by decide +kernel
theorem dX10_valueOf_30 : decode cX10_valueOf 30 = .ok (.bipush 19, 2) := by decide +kernel
theorem dX10_valueOf_32 : decode cX10_valueOf 32 = .ok (.invokestatic 232, 3) := by decide +kernel
theorem dX10_valueOf_35 : decode cX10_valueOf 35 = .ok (.iconst 5, 1) := by decide +kernel
theorem dX10_valueOf_36 : decode cX10_valueOf 36 = .ok (.invokevirtual 238, 3) := by decide +kernel
theorem dX10_valueOf_39 : decode cX10_valueOf 39 = .ok (.istore_n 3, 1) := by decide +kernel
theorem dX10_valueOf_40 : decode cX10_valueOf 40 = .ok (.aload_n 0, 1) := by decide +kernel
theorem dX10_valueOf_41 : decode cX10_valueOf 41 = .ok (.iconst 0, 1) := by decide +kernel
theorem dX10_valueOf_42 : decode cX10_valueOf 42 = .ok (.iconst 0, 1) := by decide +kernel
theorem dX10_valueOf_43 : decode cX10_valueOf 43 = .ok (.bipush 20, 2) := by decide +kernel
theorem dX10_valueOf_45 : decode cX10_valueOf 45 = .ok (.bipush 15, 2) := by decide +kernel
theorem dX10_valueOf_47 : decode cX10_valueOf 47 = .ok (.bipush 16, 2) := by decide +kernel
theorem dX10_valueOf_49 : decode cX10_valueOf 49 = .ok (.invokestatic 232, 3) := by decide +kernel
theorem dX10_valueOf_52 : decode cX10_valueOf 52 = .ok (.iconst 3, 1) := by decide +kernel
theorem dX10_valueOf_53 : decode cX10_valueOf 53 = .ok (.invokevirtual 238, 3) := by decide +kernel
theorem dX10_valueOf_56 : decode cX10_valueOf 56 = .ok (.istore 4, 2) := by decide +kernel
theorem dX10_valueOf_58 : decode cX10_valueOf 58 = .ok (.iload_n 2, 1) := by decide +kernel
theorem dX10_valueOf_59 : decode cX10_valueOf 59 = .ok (.ifCond .eq 7, 3) := by decide +kernel
theorem dX10_valueOf_62 : decode cX10_valueOf 62 = .ok (.iconst 0, 1) := by decide +kernel
theorem dX10_valueOf_63 : decode cX10_valueOf 63 = .ok (.goto 21, 3) := by decide +kernel
theorem dX10_valueOf_66 : decode cX10_valueOf 66 = .ok (.iload_n 3, 1) := by decide +kernel
theorem dX10_valueOf_67 : decode cX10_valueOf 67 = .ok (.ifCond .eq 7, 3) := by decide +kernel
theorem dX10_valueOf_70 : decode cX10_valueOf 70 = .ok (.iconst 1, 1) := by decide +kernel
theorem dX10_valueOf_71 : decode cX10_valueOf 71 = .ok (.goto 13, 3) := by decide +kernel
theorem dX10_valueOf_74 : decode cX10_valueOf 74 = .ok (.iload 4, 2) := by decide +kernel
theorem dX10_valueOf_76 : decode cX10_valueOf 76 = .ok (.ifCond .eq 7, 3) := by decide +kernel
theorem dX10_valueOf_79 : decode cX10_valueOf 79 = .ok (.iconst 2, 1) := by decide +kernel
theorem dX10_valueOf_80 : decode cX10_valueOf 80 = .ok (.goto 4, 3) := by decide +kernel
theorem dX10_valueOf_83 : decode cX10_valueOf 83 = .ok (.iconst (-1), 1) := by decide +kernel
theorem dX10_valueOf_84 : decode cX10_valueOf 84 = .ok (.ireturn, 1) := by decide +kernel
theorem dX10_valueOf_85 : decode cX10_valueOf 85 = .ok (.aload_n 0, 1) := by decide +kernel
theorem dX10_valueOf_86 : decode cX10_valueOf 86 = .ok (.iconst 0, 1) := by decide +kernel
theorem dX10_valueOf_87 : decode cX10_valueOf 87 = .ok (.iconst 0, 1) := by decide +kernel
theorem dX10_valueOf_88 : decode cX10_valueOf 88 = .ok (.bipush 25, 2) := by decide +kernel
theorem dX10_valueOf_90 : decode cX10_valueOf 90 = .ok (.iconst 5, 1) := by decide +kernel
theorem dX10_valueOf_91 : decode cX10_valueOf 91 = .ok (.bipush 19, 2) := by decide +kernel
theorem dX10_valueOf_93 : decode cX10_valueOf 93 = .ok (.invokestatic 232, 3) := by decide +kernel
theorem dX10_valueOf_96 : decode cX10_valueOf 96 = .ok (.iconst 3, 1) := by decide +kernel
theorem dX10_valueOf_97 : decode cX10_valueOf 97 = .ok (.invokevirtual 238, 3) := by decide +kernel
theorem dX10_valueOf_100 : decode cX10_valueOf 100 = .ok (.istore_n 2, 1) := by decide +kernel
theorem dX10_valueOf_101 : decode cX10_valueOf 101 = .ok (.aload_n 0, 1) := by decide +kernel
theorem dX10_valueOf_102 : decode cX10_valueOf 102 = .ok (.iconst 0, 1) := by decide +kernel
theorem dX10_valueOf_103 : decode cX10_valueOf 103 = .ok (.iconst 0, 1) := by decide +kernel
theorem dX10_valueOf_104 : decode cX10_valueOf 104 = .ok (.iconst 0, 1) := by decide +kernel
theorem dX10_valueOf_105 : decode cX10_valueOf 105 = .ok (.bipush 14, 2) := by decide +kernel
theorem dX10_valueOf_107 : decode cX10_valueOf 107 = .ok (.bipush 15, 2) := by decide +kernel
theorem dX10_valueOf_109 : decode cX10_valueOf 109 = .ok (.invokestatic 232, 3) := by decide +kernel
theorem dX10_valueOf_112 : decode cX10_valueOf 112 = .ok (.iconst 2, 1) := by decide +kernel
theorem dX10_valueOf_113 : decode cX10_valueOf 113 = .ok (.invokevirtual 238, 3) := by decide +kernel
theorem dX10_valueOf_116 : decode cX10_valueOf 116 = .ok (.istore_n 3, 1) := by decide +kernel
theorem dX10_valueOf_117 : decode cX10_valueOf 117 = .ok (.iload_n 2, 1) := by decide +kernel
theorem dX10_valueOf_118 : decode cX10_valueOf 118 = .ok (.ifCond .eq 7, 3) := by decide +kernel
theorem dX10_valueOf_121 : decode cX10_valueOf 121 = .ok (.iconst 1, 1) := by decide +kernel
theorem dX10_valueOf_122 : decode cX10_valueOf 122 = .ok (.goto 12, 3) := by decide +kernel
theorem dX10_valueOf_125 : decode cX10_valueOf 125 = .ok (.iload_n 3, 1) := by decide +kernel
theorem dX10_valueOf_126 : decode cX10_valueOf 126 = .ok (.ifCond .eq 7, 3) := by decide +kernel
theorem dX10_valueOf_129 : decode cX10_valueOf 129 = .ok (.iconst 0, 1) := by decide +kernel
theorem dX10_valueOf_130 : decode cX10_valueOf 130 = .ok (.goto 4, 3) := by decide +kernel
theorem dX10_valueOf_133 : decode cX10_valueOf 133 = .ok (.iconst (-1), 1) := by decide +kernel
theorem dX10_valueOf_134 : decode cX10_valueOf 134 = .ok (.ireturn, 1) := by decide +kernel
theorem dX10_first_0 : decode cX10_first 0 = .ok (.iload_n 0, 1) := by decide +kernel
theorem dX10_first_1 : decode cX10_first 1 = .ok (.tableswitch 45 0 4 #[35, 45, 37, 40, 42], 35) := by decide +kernel
theorem dX10_first_36 : decode cX10_first 36 = .ok (.iconst 2, 1) := by decide +kernel
theorem dX10_first_37 : decode cX10_first 37 = .ok (.ireturn, 1) := by decide +kernel
theorem dX10_first_38 : decode cX10_first 38 = .ok (.bipush 12, 2) := by decide +kernel
theorem dX10_first_40 : decode cX10_first 40 = .ok (.ireturn, 1) := by decide +kernel
theorem dX10_first_41 : decode cX10_first 41 = .ok (.iconst 0, 1) := by decide +kernel
theorem dX10_first_42 : decode cX10_first 42 = .ok (.ireturn, 1) := by decide +kernel
theorem dX10_first_43 : decode cX10_first 43 = .ok (.bipush 21, 2) := by decide +kernel
theorem dX10_first_45 : decode cX10_first 45 = .ok (.ireturn, 1) := by decide +kernel
theorem dX10_first_46 : decode cX10_first 46 = .ok (.iconst 1, 1) := by decide +kernel
theorem dX10_first_47 : decode cX10_first 47 = .ok (.ireturn, 1) := by decide +kernel
theorem dX10_least_0 : decode cX10_least 0 = .ok (.iload_n 0, 1) := by decide +kernel
theorem dX10_least_1 : decode cX10_least 1 = .ok (.iconst 2, 1) := by decide +kernel
theorem dX10_least_2 : decode cX10_least 2 = .ok (.if_icmp .eq 8, 3) := by decide +kernel
theorem dX10_least_5 : decode cX10_least 5 = .ok (.iload_n 0, 1) := by decide +kernel
theorem dX10_least_6 : decode cX10_least 6 = .ok (.iconst 4, 1) := by decide +kernel
theorem dX10_least_7 : decode cX10_least 7 = .ok (.if_icmp .ne 7, 3) := by decide +kernel
theorem dX10_least_10 : decode cX10_least 10 = .ok (.iconst 1, 1) := by decide +kernel
theorem dX10_least_11 : decode cX10_least 11 = .ok (.goto 4, 3) := by decide +kernel
theorem dX10_least_14 : decode cX10_least 14 = .ok (.iconst 0, 1) := by decide +kernel
theorem dX10_least_15 : decode cX10_least 15 = .ok (.ireturn, 1) := by decide +kernel
theorem dX10_greatest_0 : decode cX10_greatest 0 = .ok (.iload_n 0, 1) := by decide +kernel
theorem dX10_greatest_1 : decode cX10_greatest 1 = .ok (.tableswitch 36 2 4 #[27, 30, 33], 27) := by decide +kernel
theorem dX10_greatest_28 : decode cX10_greatest 28 = .ok (.bipush 12, 2) := by decide +kernel
theorem dX10_greatest_30 : decode cX10_greatest 30 = .ok (.ireturn, 1) := by decide +kernel
theorem dX10_greatest_31 : decode cX10_greatest 31 = .ok (.bipush 20, 2) := by decide +kernel
theorem dX10_greatest_33 : decode cX10_greatest 33 = .ok (.ireturn, 1) := by decide +kernel
theorem dX10_greatest_34 : decode cX10_greatest 34 = .ok (.bipush 99, 2) := by decide +kernel
theorem dX10_greatest_36 : decode cX10_greatest 36 = .ok (.ireturn, 1) := by decide +kernel
theorem dX10_greatest_37 : decode cX10_greatest 37 = .ok (.bipush 9, 2) := by decide +kernel
theorem dX10_greatest_39 : decode cX10_greatest 39 = .ok (.ireturn, 1) := by decide +kernel
theorem dX10_readValue_0 : decode cX10_readValue 0 = .ok (.iload_n 1, 1) := by decide +kernel
theorem dX10_readValue_1 : decode cX10_readValue 1 = .ok (.iconst 5, 1) := by decide +kernel
theorem dX10_readValue_2 : decode cX10_readValue 2 = .ok (.if_icmp .ge 176, 3) := by decide +kernel
theorem dX10_readValue_5 : decode cX10_readValue 5 = .ok (.aload_n 0, 1) := by decide +kernel
theorem dX10_readValue_6 : decode cX10_readValue 6 = .ok (.aload_n 0, 1) := by decide +kernel
theorem dX10_readValue_7 : decode cX10_readValue 7 = .ok (.getfield 202, 3) := by decide +kernel
theorem dX10_readValue_10 : decode cX10_readValue 10 = .ok (.invokevirtual 215, 3) := by decide +kernel
theorem dX10_readValue_13 : decode cX10_readValue 13 = .ok (.istore_n 2, 1) := by decide +kernel
theorem dX10_readValue_14 : decode cX10_readValue 14 = .ok (.aload_n 0, 1) := by decide +kernel
theorem dX10_readValue_15 : decode cX10_readValue 15 = .ok (.iload_n 2, 1) := by decide +kernel
theorem dX10_readValue_16 : decode cX10_readValue 16 = .ok (.i2l, 1) := by decide +kernel
theorem dX10_readValue_17 : decode cX10_readValue 17 = .ok (.ldc2_w 246, 3) := by decide +kernel
theorem dX10_readValue_20 : decode cX10_readValue 20 = .ok (.ldc2_w 248, 3) := by decide +kernel
theorem dX10_readValue_23 : decode cX10_readValue 23 = .ok (.invokestatic 117, 3) := by decide +kernel
theorem dX10_readValue_26 : decode cX10_readValue 26 = .ok (.iconst 1, 1) := by decide +kernel
theorem dX10_readValue_27 : decode cX10_readValue 27 = .ok (.aload_n 0, 1) := by decide +kernel
theorem dX10_readValue_28 : decode cX10_readValue 28 = .ok (.getfield 209, 3) := by decide +kernel
theorem dX10_readValue_31 : decode cX10_readValue 31 = .ok (.invokevirtual 250, 3) := by decide +kernel
theorem dX10_readValue_34 : decode cX10_readValue 34 = .ok (.ifCond .ne 4, 3) := by decide +kernel
theorem dX10_readValue_37 : decode cX10_readValue 37 = .ok (.return_, 1) := by decide +kernel
theorem dX10_readValue_38 : decode cX10_readValue 38 = .ok (.aload_n 0, 1) := by decide +kernel
theorem dX10_readValue_39 : decode cX10_readValue 39 = .ok (.getfield 209, 3) := by decide +kernel
theorem dX10_readValue_42 : decode cX10_readValue 42 = .ok (.istore_n 3, 1) := by decide +kernel
theorem dX10_readValue_43 : decode cX10_readValue 43 = .ok (.iconst 0, 1) := by decide +kernel
theorem dX10_readValue_44 : decode cX10_readValue 44 = .ok (.istore 4, 2) := by decide +kernel
theorem dX10_readValue_46 : decode cX10_readValue 46 = .ok (.aload_n 0, 1) := by decide +kernel
theorem dX10_readValue_47 : decode cX10_readValue 47 = .ok (.getfield 209, 3) := by decide +kernel
theorem dX10_readValue_50 : decode cX10_readValue 50 = .ok (.aload_n 0, 1) := by decide +kernel
theorem dX10_readValue_51 : decode cX10_readValue 51 = .ok (.getfield 202, 3) := by decide +kernel
theorem dX10_readValue_54 : decode cX10_readValue 54 = .ok (.if_icmp .ge 71, 3) := by decide +kernel
theorem dX10_readValue_57 : decode cX10_readValue 57 = .ok (.aload_n 0, 1) := by decide +kernel
theorem dX10_readValue_58 : decode cX10_readValue 58 = .ok (.getfield 44, 3) := by decide +kernel
theorem dX10_readValue_61 : decode cX10_readValue 61 = .ok (.aload_n 0, 1) := by decide +kernel
theorem dX10_readValue_62 : decode cX10_readValue 62 = .ok (.getfield 209, 3) := by decide +kernel
theorem dX10_readValue_65 : decode cX10_readValue 65 = .ok (.iaload, 1) := by decide +kernel
theorem dX10_readValue_66 : decode cX10_readValue 66 = .ok (.i2l, 1) := by decide +kernel
theorem dX10_readValue_67 : decode cX10_readValue 67 = .ok (.ldc2_w 246, 3) := by decide +kernel
theorem dX10_readValue_70 : decode cX10_readValue 70 = .ok (.ldc2_w 248, 3) := by decide +kernel
theorem dX10_readValue_73 : decode cX10_readValue 73 = .ok (.invokestatic 117, 3) := by decide +kernel
theorem dX10_readValue_76 : decode cX10_readValue 76 = .ok (.ifCond .eq 49, 3) := by decide +kernel
theorem dX10_readValue_79 : decode cX10_readValue 79 = .ok (.iload 4, 2) := by decide +kernel
theorem dX10_readValue_81 : decode cX10_readValue 81 = .ok (.sipush 999, 3) := by decide +kernel
theorem dX10_readValue_84 : decode cX10_readValue 84 = .ok (.if_icmp .le 8, 3) := by decide +kernel
theorem dX10_readValue_87 : decode cX10_readValue 87 = .ok (.iload 4, 2) := by decide +kernel
theorem dX10_readValue_89 : decode cX10_readValue 89 = .ok (.goto 21, 3) := by decide +kernel
theorem dX10_readValue_92 : decode cX10_readValue 92 = .ok (.bipush 10, 2) := by decide +kernel
theorem dX10_readValue_94 : decode cX10_readValue 94 = .ok (.iload 4, 2) := by decide +kernel
theorem dX10_readValue_96 : decode cX10_readValue 96 = .ok (.imul, 1) := by decide +kernel
theorem dX10_readValue_97 : decode cX10_readValue 97 = .ok (.aload_n 0, 1) := by decide +kernel
theorem dX10_readValue_98 : decode cX10_readValue 98 = .ok (.getfield 44, 3) := by decide +kernel
theorem dX10_readValue_101 : decode cX10_readValue 101 = .ok (.aload_n 0, 1) := by decide +kernel
theorem dX10_readValue_102 : decode cX10_readValue 102 = .ok (.getfield 209, 3) := by decide +kernel
theorem dX10_readValue_105 : decode cX10_readValue 105 = .ok (.iaload, 1) := by decide +kernel
theorem dX10_readValue_106 : decode cX10_readValue 106 = .ok (.iadd, 1) := by decide +kernel
theorem dX10_readValue_107 : decode cX10_readValue 107 = .ok (.bipush 48, 2) := by decide +kernel
theorem dX10_readValue_109 : decode cX10_readValue 109 = .ok (.isub, 1) := by decide +kernel
theorem dX10_readValue_110 : decode cX10_readValue 110 = .ok (.istore 4, 2) := by decide +kernel
theorem dX10_readValue_112 : decode cX10_readValue 112 = .ok (.aload_n 0, 1) := by decide +kernel
theorem dX10_readValue_113 : decode cX10_readValue 113 = .ok (.dup, 1) := by decide +kernel
theorem dX10_readValue_114 : decode cX10_readValue 114 = .ok (.getfield 209, 3) := by decide +kernel
theorem dX10_readValue_117 : decode cX10_readValue 117 = .ok (.iconst 1, 1) := by decide +kernel
theorem dX10_readValue_118 : decode cX10_readValue 118 = .ok (.iadd, 1) := by decide +kernel
theorem dX10_readValue_119 : decode cX10_readValue 119 = .ok (.putfield 209, 3) := by decide +kernel
theorem dX10_readValue_122 : decode cX10_readValue 122 = .ok (.goto (-76), 3) := by decide +kernel
theorem dX10_readValue_125 : decode cX10_readValue 125 = .ok (.aload_n 0, 1) := by decide +kernel
theorem dX10_readValue_126 : decode cX10_readValue 126 = .ok (.aload_n 0, 1) := by decide +kernel
theorem dX10_readValue_127 : decode cX10_readValue 127 = .ok (.getfield 209, 3) := by decide +kernel
theorem dX10_readValue_130 : decode cX10_readValue 130 = .ok (.iload_n 3, 1) := by decide +kernel
theorem dX10_readValue_131 : decode cX10_readValue 131 = .ok (.isub, 1) := by decide +kernel
theorem dX10_readValue_132 : decode cX10_readValue 132 = .ok (.iconst 3, 1) := by decide +kernel
theorem dX10_readValue_133 : decode cX10_readValue 133 = .ok (.if_icmp .ge 26, 3) := by decide +kernel
theorem dX10_readValue_136 : decode cX10_readValue 136 = .ok (.iload 4, 2) := by decide +kernel
theorem dX10_readValue_138 : decode cX10_readValue 138 = .ok (.i2l, 1) := by decide +kernel
theorem dX10_readValue_139 : decode cX10_readValue 139 = .ok (.iload_n 1, 1) := by decide +kernel
theorem dX10_readValue_140 : decode cX10_readValue 140 = .ok (.invokestatic 254, 3) := by decide +kernel
theorem dX10_readValue_143 : decode cX10_readValue 143 = .ok (.i2l, 1) := by decide +kernel
theorem dX10_readValue_144 : decode cX10_readValue 144 = .ok (.iload_n 1, 1) := by decide +kernel
theorem dX10_readValue_145 : decode cX10_readValue 145 = .ok (.invokestatic 257, 3) := by decide +kernel
theorem dX10_readValue_148 : decode cX10_readValue 148 = .ok (.i2l, 1) := by decide +kernel
theorem dX10_readValue_149 : decode cX10_readValue 149 = .ok (.invokestatic 117, 3) := by decide +kernel
theorem dX10_readValue_152 : decode cX10_readValue 152 = .ok (.ifCond .eq 7, 3) := by decide +kernel
theorem dX10_readValue_155 : decode cX10_readValue 155 = .ok (.iconst 1, 1) := by decide +kernel
theorem dX10_readValue_156 : decode cX10_readValue 156 = .ok (.goto 4, 3) := by decide +kernel
theorem dX10_readValue_159 : decode cX10_readValue 159 = .ok (.iconst 0, 1) := by decide +kernel
theorem dX10_readValue_160 : decode cX10_readValue 160 = .ok (.iconst 2, 1) := by decide +kernel
theorem dX10_readValue_161 : decode cX10_readValue 161 = .ok (.iload_n 3, 1) := by decide +kernel
theorem dX10_readValue_162 : decode cX10_readValue 162 = .ok (.invokevirtual 250, 3) := by decide +kernel
theorem dX10_readValue_165 : decode cX10_readValue 165 = .ok (.istore 5, 2) := by decide +kernel
theorem dX10_readValue_167 : decode cX10_readValue 167 = .ok (.aload_n 0, 1) := by decide +kernel
theorem dX10_readValue_168 : decode cX10_readValue 168 = .ok (.getfield 54, 3) := by decide +kernel
theorem dX10_readValue_171 : decode cX10_readValue 171 = .ok (.iload_n 1, 1) := by decide +kernel
theorem dX10_readValue_172 : decode cX10_readValue 172 = .ok (.iload 4, 2) := by decide +kernel
theorem dX10_readValue_174 : decode cX10_readValue 174 = .ok (.iastore, 1) := by decide +kernel
theorem dX10_readValue_175 : decode cX10_readValue 175 = .ok (.goto 43, 3) := by decide +kernel
theorem dX10_readValue_178 : decode cX10_readValue 178 = .ok (.aload_n 0, 1) := by decide +kernel
theorem dX10_readValue_179 : decode cX10_readValue 179 = .ok (.aload_n 0, 1) := by decide +kernel
theorem dX10_readValue_180 : decode cX10_readValue 180 = .ok (.getfield 202, 3) := by decide +kernel
theorem dX10_readValue_183 : decode cX10_readValue 183 = .ok (.invokevirtual 260, 3) := by decide +kernel
theorem dX10_readValue_186 : decode cX10_readValue 186 = .ok (.aload_n 0, 1) := by decide +kernel
theorem dX10_readValue_187 : decode cX10_readValue 187 = .ok (.iload_n 1, 1) := by decide +kernel
theorem dX10_readValue_188 : decode cX10_readValue 188 = .ok (.invokevirtual 263, 3) := by decide +kernel
theorem dX10_readValue_191 : decode cX10_readValue 191 = .ok (.istore_n 2, 1) := by decide +kernel
theorem dX10_readValue_192 : decode cX10_readValue 192 = .ok (.aload_n 0, 1) := by decide +kernel
theorem dX10_readValue_193 : decode cX10_readValue 193 = .ok (.iload_n 2, 1) := by decide +kernel
theorem dX10_readValue_194 : decode cX10_readValue 194 = .ok (.ifCond .lt 7, 3) := by decide +kernel
theorem dX10_readValue_197 : decode cX10_readValue 197 = .ok (.iconst 1, 1) := by decide +kernel
theorem dX10_readValue_198 : decode cX10_readValue 198 = .ok (.goto 4, 3) := by decide +kernel
theorem dX10_readValue_201 : decode cX10_readValue 201 = .ok (.iconst 0, 1) := by decide +kernel
theorem dX10_readValue_202 : decode cX10_readValue 202 = .ok (.iconst 1, 1) := by decide +kernel
theorem dX10_readValue_203 : decode cX10_readValue 203 = .ok (.aload_n 0, 1) := by decide +kernel
theorem dX10_readValue_204 : decode cX10_readValue 204 = .ok (.getfield 218, 3) := by decide +kernel
theorem dX10_readValue_207 : decode cX10_readValue 207 = .ok (.invokevirtual 250, 3) := by decide +kernel
theorem dX10_readValue_210 : decode cX10_readValue 210 = .ok (.istore_n 3, 1) := by decide +kernel
theorem dX10_readValue_211 : decode cX10_readValue 211 = .ok (.aload_n 0, 1) := by decide +kernel
theorem dX10_readValue_212 : decode cX10_readValue 212 = .ok (.getfield 54, 3) := by decide +kernel
theorem dX10_readValue_215 : decode cX10_readValue 215 = .ok (.iload_n 1, 1) := by decide +kernel
theorem dX10_readValue_216 : decode cX10_readValue 216 = .ok (.iload_n 2, 1) := by decide +kernel
theorem dX10_readValue_217 : decode cX10_readValue 217 = .ok (.iastore, 1) := by decide +kernel
theorem dX10_readValue_218 : decode cX10_readValue 218 = .ok (.return_, 1) := by decide +kernel
theorem dX10_readClause_0 : decode cX10_readClause 0 = .ok (.aload_n 0, 1) := by decide +kernel
theorem dX10_readClause_1 : decode cX10_readClause 1 = .ok (.aload_n 0, 1) := by decide +kernel
theorem dX10_readClause_2 : decode cX10_readClause 2 = .ok (.getfield 202, 3) := by decide +kernel
theorem dX10_readClause_5 : decode cX10_readClause 5 = .ok (.invokevirtual 260, 3) := by decide +kernel
theorem dX10_readClause_8 : decode cX10_readClause 8 = .ok (.aload_n 0, 1) := by decide +kernel
theorem dX10_readClause_9 : decode cX10_readClause 9 = .ok (.invokevirtual 266, 3) := by decide +kernel
theorem dX10_readClause_12 : decode cX10_readClause 12 = .ok (.istore_n 1, 1) := by decide +kernel
theorem dX10_readClause_13 : decode cX10_readClause 13 = .ok (.aload_n 0, 1) := by decide +kernel
theorem dX10_readClause_14 : decode cX10_readClause 14 = .ok (.iload_n 1, 1) := by decide +kernel
theorem dX10_readClause_15 : decode cX10_readClause 15 = .ok (.ifCond .lt 7, 3) := by decide +kernel
theorem dX10_readClause_18 : decode cX10_readClause 18 = .ok (.iconst 1, 1) := by decide +kernel
theorem dX10_readClause_19 : decode cX10_readClause 19 = .ok (.goto 4, 3) := by decide +kernel
theorem dX10_readClause_22 : decode cX10_readClause 22 = .ok (.iconst 0, 1) := by decide +kernel
theorem dX10_readClause_23 : decode cX10_readClause 23 = .ok (.iconst 1, 1) := by decide +kernel
theorem dX10_readClause_24 : decode cX10_readClause 24 = .ok (.aload_n 0, 1) := by decide +kernel
theorem dX10_readClause_25 : decode cX10_readClause 25 = .ok (.getfield 218, 3) := by decide +kernel
theorem dX10_readClause_28 : decode cX10_readClause 28 = .ok (.invokevirtual 250, 3) := by decide +kernel
theorem dX10_readClause_31 : decode cX10_readClause 31 = .ok (.ifCond .eq 31, 3) := by decide +kernel
theorem dX10_readClause_34 : decode cX10_readClause 34 = .ok (.aload_n 0, 1) := by decide +kernel
theorem dX10_readClause_35 : decode cX10_readClause 35 = .ok (.aload_n 0, 1) := by decide +kernel
theorem dX10_readClause_36 : decode cX10_readClause 36 = .ok (.getfield 269, 3) := by decide +kernel
theorem dX10_readClause_39 : decode cX10_readClause 39 = .ok (.iload_n 1, 1) := by decide +kernel
theorem dX10_readClause_40 : decode cX10_readClause 40 = .ok (.ishr, 1) := by decide +kernel
theorem dX10_readClause_41 : decode cX10_readClause 41 = .ok (.iconst 1, 1) := by decide +kernel
theorem dX10_readClause_42 : decode cX10_readClause 42 = .ok (.iand, 1) := by decide +kernel
theorem dX10_readClause_43 : decode cX10_readClause 43 = .ok (.ifCond .ne 7, 3) := by decide +kernel
theorem dX10_readClause_46 : decode cX10_readClause 46 = .ok (.iconst 1, 1) := by decide +kernel
theorem dX10_readClause_47 : decode cX10_readClause 47 = .ok (.goto 4, 3) := by decide +kernel
theorem dX10_readClause_50 : decode cX10_readClause 50 = .ok (.iconst 0, 1) := by decide +kernel
theorem dX10_readClause_51 : decode cX10_readClause 51 = .ok (.iconst 3, 1) := by decide +kernel
theorem dX10_readClause_52 : decode cX10_readClause 52 = .ok (.aload_n 0, 1) := by decide +kernel
theorem dX10_readClause_53 : decode cX10_readClause 53 = .ok (.getfield 218, 3) := by decide +kernel
theorem dX10_readClause_56 : decode cX10_readClause 56 = .ok (.invokevirtual 250, 3) := by decide +kernel
theorem dX10_readClause_59 : decode cX10_readClause 59 = .ok (.ifCond .ne 4, 3) := by decide +kernel
theorem dX10_readClause_62 : decode cX10_readClause 62 = .ok (.return_, 1) := by decide +kernel
theorem dX10_readClause_63 : decode cX10_readClause 63 = .ok (.aload_n 0, 1) := by decide +kernel
theorem dX10_readClause_64 : decode cX10_readClause 64 = .ok (.dup, 1) := by decide +kernel
theorem dX10_readClause_65 : decode cX10_readClause 65 = .ok (.getfield 269, 3) := by decide +kernel
theorem dX10_readClause_68 : decode cX10_readClause 68 = .ok (.iconst 1, 1) := by decide +kernel
theorem dX10_readClause_69 : decode cX10_readClause 69 = .ok (.iload_n 1, 1) := by decide +kernel
theorem dX10_readClause_70 : decode cX10_readClause 70 = .ok (.ishl, 1) := by decide +kernel
theorem dX10_readClause_71 : decode cX10_readClause 71 = .ok (.ior, 1) := by decide +kernel
theorem dX10_readClause_72 : decode cX10_readClause 72 = .ok (.putfield 269, 3) := by decide +kernel
theorem dX10_readClause_75 : decode cX10_readClause 75 = .ok (.aload_n 0, 1) := by decide +kernel
theorem dX10_readClause_76 : decode cX10_readClause 76 = .ok (.iload_n 1, 1) := by decide +kernel
theorem dX10_readClause_77 : decode cX10_readClause 77 = .ok (.invokevirtual 272, 3) := by decide +kernel
theorem dX10_readClause_80 : decode cX10_readClause 80 = .ok (.aload_n 0, 1) := by decide +kernel
theorem dX10_readClause_81 : decode cX10_readClause 81 = .ok (.aload_n 0, 1) := by decide +kernel
theorem dX10_readClause_82 : decode cX10_readClause 82 = .ok (.getfield 202, 3) := by decide +kernel
theorem dX10_readClause_85 : decode cX10_readClause 85 = .ok (.invokevirtual 215, 3) := by decide +kernel
theorem dX10_readClause_88 : decode cX10_readClause 88 = .ok (.istore_n 2, 1) := by decide +kernel
theorem dX10_readClause_89 : decode cX10_readClause 89 = .ok (.aload_n 0, 1) := by decide +kernel
theorem dX10_readClause_90 : decode cX10_readClause 90 = .ok (.getfield 212, 3) := by decide +kernel
theorem dX10_readClause_93 : decode cX10_readClause 93 = .ok (.ifCond .ne 36, 3) := by decide +kernel
theorem dX10_readClause_96 : decode cX10_readClause 96 = .ok (.aload_n 0, 1) := by decide +kernel
theorem dX10_readClause_97 : decode cX10_readClause 97 = .ok (.iload_n 2, 1) := by decide +kernel
theorem dX10_readClause_98 : decode cX10_readClause 98 = .ok (.bipush 59, 2) := by decide +kernel
theorem dX10_readClause_100 : decode cX10_readClause 100 = .ok (.if_icmp .ne 7, 3) := by decide +kernel
theorem dX10_readClause_103 : decode cX10_readClause 103 = .ok (.iconst 1, 1) := by decide +kernel
theorem dX10_readClause_104 : decode cX10_readClause 104 = .ok (.goto 4, 3) := by decide +kernel
theorem dX10_readClause_107 : decode cX10_readClause 107 = .ok (.iconst 0, 1) := by decide +kernel
theorem dX10_readClause_108 : decode cX10_readClause 108 = .ok (.iconst 1, 1) := by decide +kernel
theorem dX10_readClause_109 : decode cX10_readClause 109 = .ok (.aload_n 0, 1) := by decide +kernel
theorem dX10_readClause_110 : decode cX10_readClause 110 = .ok (.getfield 209, 3) := by decide +kernel
theorem dX10_readClause_113 : decode cX10_readClause 113 = .ok (.invokevirtual 250, 3) := by decide +kernel
theorem dX10_readClause_116 : decode cX10_readClause 116 = .ok (.ifCond .eq 13, 3) := by decide +kernel
theorem dX10_readClause_119 : decode cX10_readClause 119 = .ok (.aload_n 0, 1) := by decide +kernel
theorem dX10_readClause_120 : decode cX10_readClause 120 = .ok (.dup, 1) := by decide +kernel
theorem dX10_readClause_121 : decode cX10_readClause 121 = .ok (.getfield 209, 3) := by decide +kernel
theorem dX10_readClause_124 : decode cX10_readClause 124 = .ok (.iconst 1, 1) := by decide +kernel
theorem dX10_readClause_125 : decode cX10_readClause 125 = .ok (.iadd, 1) := by decide +kernel
theorem dX10_readClause_126 : decode cX10_readClause 126 = .ok (.putfield 209, 3) := by decide +kernel
theorem dX10_readClause_129 : decode cX10_readClause 129 = .ok (.return_, 1) := by decide +kernel
theorem dX10_isVillage_0 : decode cX10_isVillage 0 = .ok (.iload_n 0, 1) := by decide +kernel
theorem dX10_isVillage_1 : decode cX10_isVillage 1 = .ok (.i2l, 1) := by decide +kernel
theorem dX10_isVillage_2 : decode cX10_isVillage 2 = .ok (.lconst 0, 1) := by decide +kernel
theorem dX10_isVillage_3 : decode cX10_isVillage 3 = .ok (.ldc2_w 275, 3) := by decide +kernel
theorem dX10_isVillage_6 : decode cX10_isVillage 6 = .ok (.invokestatic 117, 3) := by decide +kernel
theorem dX10_isVillage_9 : decode cX10_isVillage 9 = .ok (.ireturn, 1) := by decide +kernel
theorem dX10_rule_0 : decode cX10_rule 0 = .ok (.iload_n 1, 1) := by decide +kernel
theorem dX10_rule_1 : decode cX10_rule 1 = .ok (.invokestatic 277, 3) := by decide +kernel
theorem dX10_rule_4 : decode cX10_rule 4 = .ok (.ifCond .ne 7, 3) := by decide +kernel
theorem dX10_rule_7 : decode cX10_rule 7 = .ok (.sipush (-1001), 3) := by decide +kernel
theorem dX10_rule_10 : decode cX10_rule 10 = .ok (.ireturn, 1) := by decide +kernel
theorem dX10_rule_11 : decode cX10_rule 11 = .ok (.aload_n 0, 1) := by decide +kernel
theorem dX10_rule_12 : decode cX10_rule 12 = .ok (.iconst 0, 1) := by decide +kernel
theorem dX10_rule_13 : decode cX10_rule 13 = .ok (.putfield 209, 3) := by decide +kernel
theorem dX10_rule_16 : decode cX10_rule 16 = .ok (.aload_n 0, 1) := by decide +kernel
theorem dX10_rule_17 : decode cX10_rule 17 = .ok (.iconst 0, 1) := by decide +kernel
theorem dX10_rule_18 : decode cX10_rule 18 = .ok (.putfield 212, 3) := by decide +kernel
theorem dX10_rule_21 : decode cX10_rule 21 = .ok (.aload_n 0, 1) := by decide +kernel
theorem dX10_rule_22 : decode cX10_rule 22 = .ok (.iconst (-1), 1) := by decide +kernel
theorem dX10_rule_23 : decode cX10_rule 23 = .ok (.putfield 47, 3) := by decide +kernel
theorem dX10_rule_26 : decode cX10_rule 26 = .ok (.aload_n 0, 1) := by decide +kernel
theorem dX10_rule_27 : decode cX10_rule 27 = .ok (.iconst 0, 1) := by decide +kernel
theorem dX10_rule_28 : decode cX10_rule 28 = .ok (.putfield 269, 3) := by decide +kernel
theorem dX10_rule_31 : decode cX10_rule 31 = .ok (.iconst 0, 1) := by decide +kernel
theorem dX10_rule_32 : decode cX10_rule 32 = .ok (.istore_n 2, 1) := by decide +kernel
theorem dX10_rule_33 : decode cX10_rule 33 = .ok (.iload_n 2, 1) := by decide +kernel
theorem dX10_rule_34 : decode cX10_rule 34 = .ok (.bipush 8, 2) := by decide +kernel
theorem dX10_rule_36 : decode cX10_rule 36 = .ok (.if_icmp .ge 19, 3) := by decide +kernel
theorem dX10_rule_39 : decode cX10_rule 39 = .ok (.aload_n 0, 1) := by decide +kernel
theorem dX10_rule_40 : decode cX10_rule 40 = .ok (.getfield 54, 3) := by decide +kernel
theorem dX10_rule_43 : decode cX10_rule 43 = .ok (.iload_n 2, 1) := by decide +kernel
theorem dX10_rule_44 : decode cX10_rule 44 = .ok (.iload_n 2, 1) := by decide +kernel
theorem dX10_rule_45 : decode cX10_rule 45 = .ok (.invokestatic 103, 3) := by decide +kernel
theorem dX10_rule_48 : decode cX10_rule 48 = .ok (.iastore, 1) := by decide +kernel
theorem dX10_rule_49 : decode cX10_rule 49 = .ok (.iinc 2 1, 3) := by decide +kernel
theorem dX10_rule_52 : decode cX10_rule 52 = .ok (.goto (-19), 3) := by decide +kernel
theorem dX10_rule_55 : decode cX10_rule 55 = .ok (.iconst 0, 1) := by decide +kernel
theorem dX10_rule_56 : decode cX10_rule 56 = .ok (.istore_n 2, 1) := by decide +kernel
theorem dX10_rule_57 : decode cX10_rule 57 = .ok (.aload_n 0, 1) := by decide +kernel
theorem dX10_rule_58 : decode cX10_rule 58 = .ok (.getfield 212, 3) := by decide +kernel
theorem dX10_rule_61 : decode cX10_rule 61 = .ok (.ifCond .ne 24, 3) := by decide +kernel
theorem dX10_rule_64 : decode cX10_rule 64 = .ok (.aload_n 0, 1) := by decide +kernel
theorem dX10_rule_65 : decode cX10_rule 65 = .ok (.aload_n 0, 1) := by decide +kernel
theorem dX10_rule_66 : decode cX10_rule 66 = .ok (.getfield 202, 3) := by decide +kernel
theorem dX10_rule_69 : decode cX10_rule 69 = .ok (.invokevirtual 215, 3) := by decide +kernel
theorem dX10_rule_72 : decode cX10_rule 72 = .ok (.ifCond .lt 13, 3) := by decide +kernel
theorem dX10_rule_75 : decode cX10_rule 75 = .ok (.aload_n 0, 1) := by decide +kernel
theorem dX10_rule_76 : decode cX10_rule 76 = .ok (.invokevirtual 280, 3) := by decide +kernel
theorem dX10_rule_79 : decode cX10_rule 79 = .ok (.iinc 2 1, 3) := by decide +kernel
theorem dX10_rule_82 : decode cX10_rule 82 = .ok (.goto (-25), 3) := by decide +kernel
theorem dX10_rule_85 : decode cX10_rule 85 = .ok (.aload_n 0, 1) := by decide +kernel
theorem dX10_rule_86 : decode cX10_rule 86 = .ok (.iconst 0, 1) := by decide +kernel
theorem dX10_rule_87 : decode cX10_rule 87 = .ok (.putfield 202, 3) := by decide +kernel
theorem dX10_rule_90 : decode cX10_rule 90 = .ok (.aload_n 0, 1) := by decide +kernel
theorem dX10_rule_91 : decode cX10_rule 91 = .ok (.getfield 212, 3) := by decide +kernel
theorem dX10_rule_94 : decode cX10_rule 94 = .ok (.ifCond .le 11, 3) := by decide +kernel
theorem dX10_rule_97 : decode cX10_rule 97 = .ok (.bipush (-10), 2) := by decide +kernel
theorem dX10_rule_99 : decode cX10_rule 99 = .ok (.aload_n 0, 1) := by decide +kernel
theorem dX10_rule_100 : decode cX10_rule 100 = .ok (.getfield 212, 3) := by decide +kernel
theorem dX10_rule_103 : decode cX10_rule 103 = .ok (.isub, 1) := by decide +kernel
theorem dX10_rule_104 : decode cX10_rule 104 = .ok (.ireturn, 1) := by decide +kernel
theorem dX10_rule_105 : decode cX10_rule 105 = .ok (.iconst 0, 1) := by decide +kernel
theorem dX10_rule_106 : decode cX10_rule 106 = .ok (.istore_n 3, 1) := by decide +kernel
theorem dX10_rule_107 : decode cX10_rule 107 = .ok (.iload_n 3, 1) := by decide +kernel
theorem dX10_rule_108 : decode cX10_rule 108 = .ok (.bipush 8, 2) := by decide +kernel
theorem dX10_rule_110 : decode cX10_rule 110 = .ok (.if_icmp .ge 26, 3) := by decide +kernel
theorem dX10_rule_113 : decode cX10_rule 113 = .ok (.aload_n 0, 1) := by decide +kernel
theorem dX10_rule_114 : decode cX10_rule 114 = .ok (.getfield 51, 3) := by decide +kernel
theorem dX10_rule_117 : decode cX10_rule 117 = .ok (.bipush 8, 2) := by decide +kernel
theorem dX10_rule_119 : decode cX10_rule 119 = .ok (.iload_n 1, 1) := by decide +kernel
theorem dX10_rule_120 : decode cX10_rule 120 = .ok (.imul, 1) := by decide +kernel
theorem dX10_rule_121 : decode cX10_rule 121 = .ok (.iload_n 3, 1) := by decide +kernel
theorem dX10_rule_122 : decode cX10_rule 122 = .ok (.iadd, 1) := by decide +kernel
theorem dX10_rule_123 : decode cX10_rule 123 = .ok (.aload_n 0, 1) := by decide +kernel
theorem dX10_rule_124 : decode cX10_rule 124 = .ok (.getfield 54, 3) := by decide +kernel
theorem dX10_rule_127 : decode cX10_rule 127 = .ok (.iload_n 3, 1) := by decide +kernel
theorem dX10_rule_128 : decode cX10_rule 128 = .ok (.iaload, 1) := by decide +kernel
theorem dX10_rule_129 : decode cX10_rule 129 = .ok (.iastore, 1) := by decide +kernel
theorem dX10_rule_130 : decode cX10_rule 130 = .ok (.iinc 3 1, 3) := by decide +kernel
theorem dX10_rule_133 : decode cX10_rule 133 = .ok (.goto (-26), 3) := by decide +kernel
theorem dX10_rule_136 : decode cX10_rule 136 = .ok (.iload_n 2, 1) := by decide +kernel
theorem dX10_rule_137 : decode cX10_rule 137 = .ok (.ireturn, 1) := by decide +kernel
theorem dX10_fault_0 : decode cX10_fault 0 = .ok (.aload_n 0, 1) := by decide +kernel
theorem dX10_fault_1 : decode cX10_fault 1 = .ok (.getfield 47, 3) := by decide +kernel
theorem dX10_fault_4 : decode cX10_fault 4 = .ok (.ireturn, 1) := by decide +kernel
theorem dX10_says_0 : decode cX10_says 0 = .ok (.iload_n 1, 1) := by decide +kernel
theorem dX10_says_1 : decode cX10_says 1 = .ok (.invokestatic 277, 3) := by decide +kernel
theorem dX10_says_4 : decode cX10_says 4 = .ok (.ifCond .ne 7, 3) := by decide +kernel
theorem dX10_says_7 : decode cX10_says 7 = .ok (.sipush (-1001), 3) := by decide +kernel
theorem dX10_says_10 : decode cX10_says 10 = .ok (.ireturn, 1) := by decide +kernel
theorem dX10_says_11 : decode cX10_says 11 = .ok (.iload_n 2, 1) := by decide +kernel
theorem dX10_says_12 : decode cX10_says 12 = .ok (.i2l, 1) := by decide +kernel
theorem dX10_says_13 : decode cX10_says 13 = .ok (.lconst 0, 1) := by decide +kernel
theorem dX10_says_14 : decode cX10_says 14 = .ok (.ldc2_w 283, 3) := by decide +kernel
theorem dX10_says_17 : decode cX10_says 17 = .ok (.invokestatic 117, 3) := by decide +kernel
theorem dX10_says_20 : decode cX10_says 20 = .ok (.ifCond .eq 17, 3) := by decide +kernel
theorem dX10_says_23 : decode cX10_says 23 = .ok (.aload_n 0, 1) := by decide +kernel
theorem dX10_says_24 : decode cX10_says 24 = .ok (.getfield 51, 3) := by decide +kernel
theorem dX10_says_27 : decode cX10_says 27 = .ok (.bipush 8, 2) := by decide +kernel
theorem dX10_says_29 : decode cX10_says 29 = .ok (.iload_n 1, 1) := by decide +kernel
theorem dX10_says_30 : decode cX10_says 30 = .ok (.imul, 1) := by decide +kernel
theorem dX10_says_31 : decode cX10_says 31 = .ok (.iload_n 2, 1) := by decide +kernel
theorem dX10_says_32 : decode cX10_says 32 = .ok (.iadd, 1) := by decide +kernel
theorem dX10_says_33 : decode cX10_says 33 = .ok (.iaload, 1) := by decide +kernel
theorem dX10_says_34 : decode cX10_says 34 = .ok (.goto 6, 3) := by decide +kernel
theorem dX10_says_37 : decode cX10_says 37 = .ok (.sipush (-1002), 3) := by decide +kernel
theorem dX10_says_40 : decode cX10_says 40 = .ok (.ireturn, 1) := by decide +kernel
theorem dX10_counts_0 : decode cX10_counts 0 = .ok (.aload_n 0, 1) := by decide +kernel
theorem dX10_counts_1 : decode cX10_counts 1 = .ok (.getfield 32, 3) := by decide +kernel
theorem dX10_counts_4 : decode cX10_counts 4 = .ok (.iload_n 2, 1) := by decide +kernel
theorem dX10_counts_5 : decode cX10_counts 5 = .ok (.baload, 1) := by decide +kernel
theorem dX10_counts_6 : decode cX10_counts 6 = .ok (.ifCond .ne 32, 3) := by decide +kernel
theorem dX10_counts_9 : decode cX10_counts 9 = .ok (.aload_n 0, 1) := by decide +kernel
theorem dX10_counts_10 : decode cX10_counts 10 = .ok (.getfield 51, 3) := by decide +kernel
theorem dX10_counts_13 : decode cX10_counts 13 = .ok (.bipush 8, 2) := by decide +kernel
theorem dX10_counts_15 : decode cX10_counts 15 = .ok (.iload_n 1, 1) := by decide +kernel
theorem dX10_counts_16 : decode cX10_counts 16 = .ok (.imul, 1) := by decide +kernel
theorem dX10_counts_17 : decode cX10_counts 17 = .ok (.bipush 6, 2) := by decide +kernel
theorem dX10_counts_19 : decode cX10_counts 19 = .ok (.iadd, 1) := by decide +kernel
theorem dX10_counts_20 : decode cX10_counts 20 = .ok (.iaload, 1) := by decide +kernel
theorem dX10_counts_21 : decode cX10_counts 21 = .ok (.iconst 1, 1) := by decide +kernel
theorem dX10_counts_22 : decode cX10_counts 22 = .ok (.if_icmp .eq 12, 3) := by decide +kernel
theorem dX10_counts_25 : decode cX10_counts 25 = .ok (.aload_n 0, 1) := by decide +kernel
theorem dX10_counts_26 : decode cX10_counts 26 = .ok (.getfield 28, 3) := by decide +kernel
theorem dX10_counts_29 : decode cX10_counts 29 = .ok (.iload_n 2, 1) := by decide +kernel
theorem dX10_counts_30 : decode cX10_counts 30 = .ok (.baload, 1) := by decide +kernel
theorem dX10_counts_31 : decode cX10_counts 31 = .ok (.ifCond .eq 7, 3) := by decide +kernel
theorem dX10_counts_34 : decode cX10_counts 34 = .ok (.iconst 1, 1) := by decide +kernel
theorem dX10_counts_35 : decode cX10_counts 35 = .ok (.goto 4, 3) := by decide +kernel
theorem dX10_counts_38 : decode cX10_counts 38 = .ok (.iconst 0, 1) := by decide +kernel
theorem dX10_counts_39 : decode cX10_counts 39 = .ok (.istore_n 3, 1) := by decide +kernel
theorem dX10_counts_40 : decode cX10_counts 40 = .ok (.iconst 0, 1) := by decide +kernel
theorem dX10_counts_41 : decode cX10_counts 41 = .ok (.istore 4, 2) := by decide +kernel
theorem dX10_counts_43 : decode cX10_counts 43 = .ok (.iload 4, 2) := by decide +kernel
theorem dX10_counts_45 : decode cX10_counts 45 = .ok (.aload_n 0, 1) := by decide +kernel
theorem dX10_counts_46 : decode cX10_counts 46 = .ok (.getfield 114, 3) := by decide +kernel
theorem dX10_counts_49 : decode cX10_counts 49 = .ok (.if_icmp .ge 61, 3) := by decide +kernel
theorem dX10_counts_52 : decode cX10_counts 52 = .ok (.iload_n 3, 1) := by decide +kernel
theorem dX10_counts_53 : decode cX10_counts 53 = .ok (.ifCond .eq 49, 3) := by decide +kernel
theorem dX10_counts_56 : decode cX10_counts 56 = .ok (.aload_n 0, 1) := by decide +kernel
theorem dX10_counts_57 : decode cX10_counts 57 = .ok (.getfield 51, 3) := by decide +kernel
theorem dX10_counts_60 : decode cX10_counts 60 = .ok (.bipush 8, 2) := by decide +kernel
theorem dX10_counts_62 : decode cX10_counts 62 = .ok (.iload_n 1, 1) := by decide +kernel
theorem dX10_counts_63 : decode cX10_counts 63 = .ok (.imul, 1) := by decide +kernel
theorem dX10_counts_64 : decode cX10_counts 64 = .ok (.bipush 7, 2) := by decide +kernel
theorem dX10_counts_66 : decode cX10_counts 66 = .ok (.iadd, 1) := by decide +kernel
theorem dX10_counts_67 : decode cX10_counts 67 = .ok (.iaload, 1) := by decide +kernel
theorem dX10_counts_68 : decode cX10_counts 68 = .ok (.iconst 1, 1) := by decide +kernel
theorem dX10_counts_69 : decode cX10_counts 69 = .ok (.if_icmp .eq 29, 3) := by decide +kernel
theorem dX10_counts_72 : decode cX10_counts 72 = .ok (.aload_n 0, 1) := by decide +kernel
theorem dX10_counts_73 : decode cX10_counts 73 = .ok (.getfield 7, 3) := by decide +kernel
theorem dX10_counts_76 : decode cX10_counts 76 = .ok (.iload 4, 2) := by decide +kernel
theorem dX10_counts_78 : decode cX10_counts 78 = .ok (.iaload, 1) := by decide +kernel
theorem dX10_counts_79 : decode cX10_counts 79 = .ok (.aload_n 0, 1) := by decide +kernel
theorem dX10_counts_80 : decode cX10_counts 80 = .ok (.getfield 7, 3) := by decide +kernel
theorem dX10_counts_83 : decode cX10_counts 83 = .ok (.iload_n 2, 1) := by decide +kernel
theorem dX10_counts_84 : decode cX10_counts 84 = .ok (.iaload, 1) := by decide +kernel
theorem dX10_counts_85 : decode cX10_counts 85 = .ok (.if_icmp .eq 13, 3) := by decide +kernel
theorem dX10_counts_88 : decode cX10_counts 88 = .ok (.aload_n 0, 1) := by decide +kernel
theorem dX10_counts_89 : decode cX10_counts 89 = .ok (.iload 4, 2) := by decide +kernel
theorem dX10_counts_91 : decode cX10_counts 91 = .ok (.iload_n 2, 1) := by decide +kernel
theorem dX10_counts_92 : decode cX10_counts 92 = .ok (.invokevirtual 152, 3) := by decide +kernel
theorem dX10_counts_95 : decode cX10_counts 95 = .ok (.ifCond .ne 7, 3) := by decide +kernel
theorem dX10_counts_98 : decode cX10_counts 98 = .ok (.iconst 1, 1) := by decide +kernel
theorem dX10_counts_99 : decode cX10_counts 99 = .ok (.goto 4, 3) := by decide +kernel
theorem dX10_counts_102 : decode cX10_counts 102 = .ok (.iconst 0, 1) := by decide +kernel
theorem dX10_counts_103 : decode cX10_counts 103 = .ok (.istore_n 3, 1) := by decide +kernel
theorem dX10_counts_104 : decode cX10_counts 104 = .ok (.iinc 4 1, 3) := by decide +kernel
theorem dX10_counts_107 : decode cX10_counts 107 = .ok (.goto (-64), 3) := by decide +kernel
theorem dX10_counts_110 : decode cX10_counts 110 = .ok (.iload_n 3, 1) := by decide +kernel
theorem dX10_counts_111 : decode cX10_counts 111 = .ok (.ireturn, 1) := by decide +kernel
theorem dX10_ones_0 : decode cX10_ones 0 = .ok (.iconst 0, 1) := by decide +kernel
theorem dX10_ones_1 : decode cX10_ones 1 = .ok (.istore_n 1, 1) := by decide +kernel
theorem dX10_ones_2 : decode cX10_ones 2 = .ok (.iconst 0, 1) := by decide +kernel
theorem dX10_ones_3 : decode cX10_ones 3 = .ok (.istore_n 2, 1) := by decide +kernel
theorem dX10_ones_4 : decode cX10_ones 4 = .ok (.iload_n 2, 1) := by decide +kernel
theorem dX10_ones_5 : decode cX10_ones 5 = .ok (.bipush 12, 2) := by decide +kernel
theorem dX10_ones_7 : decode cX10_ones 7 = .ok (.if_icmp .ge 17, 3) := by decide +kernel
theorem dX10_ones_10 : decode cX10_ones 10 = .ok (.iload_n 1, 1) := by decide +kernel
theorem dX10_ones_11 : decode cX10_ones 11 = .ok (.iload_n 0, 1) := by decide +kernel
theorem dX10_ones_12 : decode cX10_ones 12 = .ok (.iload_n 2, 1) := by decide +kernel
theorem dX10_ones_13 : decode cX10_ones 13 = .ok (.ishr, 1) := by decide +kernel
theorem dX10_ones_14 : decode cX10_ones 14 = .ok (.iconst 1, 1) := by decide +kernel
theorem dX10_ones_15 : decode cX10_ones 15 = .ok (.iand, 1) := by decide +kernel
theorem dX10_ones_16 : decode cX10_ones 16 = .ok (.iadd, 1) := by decide +kernel
theorem dX10_ones_17 : decode cX10_ones 17 = .ok (.istore_n 1, 1) := by decide +kernel
theorem dX10_ones_18 : decode cX10_ones 18 = .ok (.iinc 2 1, 3) := by decide +kernel
theorem dX10_ones_21 : decode cX10_ones 21 = .ok (.goto (-17), 3) := by decide +kernel
theorem dX10_ones_24 : decode cX10_ones 24 = .ok (.iload_n 1, 1) := by decide +kernel
theorem dX10_ones_25 : decode cX10_ones 25 = .ok (.ireturn, 1) := by decide +kernel
theorem dX10_lastOf_0 : decode cX10_lastOf 0 = .ok (.iconst 0, 1) := by decide +kernel
theorem dX10_lastOf_1 : decode cX10_lastOf 1 = .ok (.istore_n 2, 1) := by decide +kernel
theorem dX10_lastOf_2 : decode cX10_lastOf 2 = .ok (.iload_n 1, 1) := by decide +kernel
theorem dX10_lastOf_3 : decode cX10_lastOf 3 = .ok (.istore_n 3, 1) := by decide +kernel
theorem dX10_lastOf_4 : decode cX10_lastOf 4 = .ok (.bipush 11, 2) := by decide +kernel
theorem dX10_lastOf_6 : decode cX10_lastOf 6 = .ok (.istore 4, 2) := by decide +kernel
theorem dX10_lastOf_8 : decode cX10_lastOf 8 = .ok (.iload 4, 2) := by decide +kernel
theorem dX10_lastOf_10 : decode cX10_lastOf 10 = .ok (.ifCond .lt 33, 3) := by decide +kernel
theorem dX10_lastOf_13 : decode cX10_lastOf 13 = .ok (.iload_n 0, 1) := by decide +kernel
theorem dX10_lastOf_14 : decode cX10_lastOf 14 = .ok (.iload 4, 2) := by decide +kernel
theorem dX10_lastOf_16 : decode cX10_lastOf 16 = .ok (.ishr, 1) := by decide +kernel
theorem dX10_lastOf_17 : decode cX10_lastOf 17 = .ok (.iconst 1, 1) := by decide +kernel
theorem dX10_lastOf_18 : decode cX10_lastOf 18 = .ok (.iand, 1) := by decide +kernel
theorem dX10_lastOf_19 : decode cX10_lastOf 19 = .ok (.iconst 1, 1) := by decide +kernel
theorem dX10_lastOf_20 : decode cX10_lastOf 20 = .ok (.if_icmp .ne 17, 3) := by decide +kernel
theorem dX10_lastOf_23 : decode cX10_lastOf 23 = .ok (.iload_n 3, 1) := by decide +kernel
theorem dX10_lastOf_24 : decode cX10_lastOf 24 = .ok (.ifCond .le 13, 3) := by decide +kernel
theorem dX10_lastOf_27 : decode cX10_lastOf 27 = .ok (.iload_n 2, 1) := by decide +kernel
theorem dX10_lastOf_28 : decode cX10_lastOf 28 = .ok (.iconst 1, 1) := by decide +kernel
theorem dX10_lastOf_29 : decode cX10_lastOf 29 = .ok (.iload 4, 2) := by decide +kernel
theorem dX10_lastOf_31 : decode cX10_lastOf 31 = .ok (.ishl, 1) := by decide +kernel
theorem dX10_lastOf_32 : decode cX10_lastOf 32 = .ok (.ior, 1) := by decide +kernel
theorem dX10_lastOf_33 : decode cX10_lastOf 33 = .ok (.istore_n 2, 1) := by decide +kernel
theorem dX10_lastOf_34 : decode cX10_lastOf 34 = .ok (.iinc 3 (-1), 3) := by decide +kernel
theorem dX10_lastOf_37 : decode cX10_lastOf 37 = .ok (.iinc 4 (-1), 3) := by decide +kernel
theorem dX10_lastOf_40 : decode cX10_lastOf 40 = .ok (.goto (-32), 3) := by decide +kernel
theorem dX10_lastOf_43 : decode cX10_lastOf 43 = .ok (.iload_n 2, 1) := by decide +kernel
theorem dX10_lastOf_44 : decode cX10_lastOf 44 = .ok (.ireturn, 1) := by decide +kernel
theorem dX10_firstOf_0 : decode cX10_firstOf 0 = .ok (.iconst 0, 1) := by decide +kernel
theorem dX10_firstOf_1 : decode cX10_firstOf 1 = .ok (.istore_n 2, 1) := by decide +kernel
theorem dX10_firstOf_2 : decode cX10_firstOf 2 = .ok (.iload_n 1, 1) := by decide +kernel
theorem dX10_firstOf_3 : decode cX10_firstOf 3 = .ok (.istore_n 3, 1) := by decide +kernel
theorem dX10_firstOf_4 : decode cX10_firstOf 4 = .ok (.iconst 0, 1) := by decide +kernel
theorem dX10_firstOf_5 : decode cX10_firstOf 5 = .ok (.istore 4, 2) := by decide +kernel
theorem dX10_firstOf_7 : decode cX10_firstOf 7 = .ok (.iload 4, 2) := by decide +kernel
theorem dX10_firstOf_9 : decode cX10_firstOf 9 = .ok (.bipush 12, 2) := by decide +kernel
theorem dX10_firstOf_11 : decode cX10_firstOf 11 = .ok (.if_icmp .ge 33, 3) := by decide +kernel
theorem dX10_firstOf_14 : decode cX10_firstOf 14 = .ok (.iload_n 0, 1) := by decide +kernel
theorem dX10_firstOf_15 : decode cX10_firstOf 15 = .ok (.iload 4, 2) := by decide +kernel
theorem dX10_firstOf_17 : decode cX10_firstOf 17 = .ok (.ishr, 1) := by decide +kernel
theorem dX10_firstOf_18 : decode cX10_firstOf 18 = .ok (.iconst 1, 1) := by decide +kernel
theorem dX10_firstOf_19 : decode cX10_firstOf 19 = .ok (.iand, 1) := by decide +kernel
theorem dX10_firstOf_20 : decode cX10_firstOf 20 = .ok (.iconst 1, 1) := by decide +kernel
theorem dX10_firstOf_21 : decode cX10_firstOf 21 = .ok (.if_icmp .ne 17, 3) := by decide +kernel
theorem dX10_firstOf_24 : decode cX10_firstOf 24 = .ok (.iload_n 3, 1) := by decide +kernel
theorem dX10_firstOf_25 : decode cX10_firstOf 25 = .ok (.ifCond .le 13, 3) := by decide +kernel
theorem dX10_firstOf_28 : decode cX10_firstOf 28 = .ok (.iload_n 2, 1) := by decide +kernel
theorem dX10_firstOf_29 : decode cX10_firstOf 29 = .ok (.iconst 1, 1) := by decide +kernel
theorem dX10_firstOf_30 : decode cX10_firstOf 30 = .ok (.iload 4, 2) := by decide +kernel
theorem dX10_firstOf_32 : decode cX10_firstOf 32 = .ok (.ishl, 1) := by decide +kernel
theorem dX10_firstOf_33 : decode cX10_firstOf 33 = .ok (.ior, 1) := by decide +kernel
theorem dX10_firstOf_34 : decode cX10_firstOf 34 = .ok (.istore_n 2, 1) := by decide +kernel
theorem dX10_firstOf_35 : decode cX10_firstOf 35 = .ok (.iinc 3 (-1), 3) := by decide +kernel
theorem dX10_firstOf_38 : decode cX10_firstOf 38 = .ok (.iinc 4 1, 3) := by decide +kernel
theorem dX10_firstOf_41 : decode cX10_firstOf 41 = .ok (.goto (-34), 3) := by decide +kernel
theorem dX10_firstOf_44 : decode cX10_firstOf 44 = .ok (.iload_n 2, 1) := by decide +kernel
theorem dX10_firstOf_45 : decode cX10_firstOf 45 = .ok (.ireturn, 1) := by decide +kernel
theorem dX10_findRingers_0 : decode cX10_findRingers 0 = .ok (.aload_n 0, 1) := by decide +kernel
theorem dX10_findRingers_1 : decode cX10_findRingers 1 = .ok (.getfield 51, 3) := by decide +kernel
theorem dX10_findRingers_4 : decode cX10_findRingers 4 = .ok (.bipush 8, 2) := by decide +kernel
theorem dX10_findRingers_6 : decode cX10_findRingers 6 = .ok (.iload_n 1, 1) := by decide +kernel
theorem dX10_findRingers_7 : decode cX10_findRingers 7 = .ok (.imul, 1) := by decide +kernel
theorem dX10_findRingers_8 : decode cX10_findRingers 8 = .ok (.iconst 5, 1) := by decide +kernel
theorem dX10_findRingers_9 : decode cX10_findRingers 9 = .ok (.iadd, 1) := by decide +kernel
theorem dX10_findRingers_10 : decode cX10_findRingers 10 = .ok (.iaload, 1) := by decide +kernel
theorem dX10_findRingers_11 : decode cX10_findRingers 11 = .ok (.istore 4, 2) := by decide +kernel
theorem dX10_findRingers_13 : decode cX10_findRingers 13 = .ok (.iload 4, 2) := by decide +kernel
theorem dX10_findRingers_15 : decode cX10_findRingers 15 = .ok (.ifCond .ne 13, 3) := by decide +kernel
theorem dX10_findRingers_18 : decode cX10_findRingers 18 = .ok (.aload_n 0, 1) := by decide +kernel
theorem dX10_findRingers_19 : decode cX10_findRingers 19 = .ok (.iload_n 2, 1) := by decide +kernel
theorem dX10_findRingers_20 : decode cX10_findRingers 20 = .ok (.iload_n 3, 1) := by decide +kernel
theorem dX10_findRingers_21 : decode cX10_findRingers 21 = .ok (.ior, 1) := by decide +kernel
theorem dX10_findRingers_22 : decode cX10_findRingers 22 = .ok (.putfield 285, 3) := by decide +kernel
theorem dX10_findRingers_25 : decode cX10_findRingers 25 = .ok (.goto 60, 3) := by decide +kernel
theorem dX10_findRingers_28 : decode cX10_findRingers 28 = .ok (.iload 4, 2) := by decide +kernel
theorem dX10_findRingers_30 : decode cX10_findRingers 30 = .ok (.iconst 2, 1) := by decide +kernel
theorem dX10_findRingers_31 : decode cX10_findRingers 31 = .ok (.if_icmp .ne 17, 3) := by decide +kernel
theorem dX10_findRingers_34 : decode cX10_findRingers 34 = .ok (.aload_n 0, 1) := by decide +kernel
theorem dX10_findRingers_35 : decode cX10_findRingers 35 = .ok (.iload_n 2, 1) := by decide +kernel
theorem dX10_findRingers_36 : decode cX10_findRingers 36 = .ok (.iload_n 3, 1) := by decide +kernel
theorem dX10_findRingers_37 : decode cX10_findRingers 37 = .ok (.ior, 1) := by decide +kernel
theorem dX10_findRingers_38 : decode cX10_findRingers 38 = .ok (.iconst 1, 1) := by decide +kernel
theorem dX10_findRingers_39 : decode cX10_findRingers 39 = .ok (.invokestatic 288, 3) := by decide +kernel
theorem dX10_findRingers_42 : decode cX10_findRingers 42 = .ok (.putfield 285, 3) := by decide +kernel
theorem dX10_findRingers_45 : decode cX10_findRingers 45 = .ok (.goto 40, 3) := by decide +kernel
theorem dX10_findRingers_48 : decode cX10_findRingers 48 = .ok (.iload_n 2, 1) := by decide +kernel
theorem dX10_findRingers_49 : decode cX10_findRingers 49 = .ok (.invokestatic 292, 3) := by decide +kernel
theorem dX10_findRingers_52 : decode cX10_findRingers 52 = .ok (.iload_n 3, 1) := by decide +kernel
theorem dX10_findRingers_53 : decode cX10_findRingers 53 = .ok (.invokestatic 292, 3) := by decide +kernel
theorem dX10_findRingers_56 : decode cX10_findRingers 56 = .ok (.isub, 1) := by decide +kernel
theorem dX10_findRingers_57 : decode cX10_findRingers 57 = .ok (.istore 5, 2) := by decide +kernel
theorem dX10_findRingers_59 : decode cX10_findRingers 59 = .ok (.aload_n 0, 1) := by decide +kernel
theorem dX10_findRingers_60 : decode cX10_findRingers 60 = .ok (.iload 5, 2) := by decide +kernel
theorem dX10_findRingers_62 : decode cX10_findRingers 62 = .ok (.ifCond .le 12, 3) := by decide +kernel
theorem dX10_findRingers_65 : decode cX10_findRingers 65 = .ok (.iload_n 2, 1) := by decide +kernel
theorem dX10_findRingers_66 : decode cX10_findRingers 66 = .ok (.iload 5, 2) := by decide +kernel
theorem dX10_findRingers_68 : decode cX10_findRingers 68 = .ok (.invokestatic 288, 3) := by decide +kernel
theorem dX10_findRingers_71 : decode cX10_findRingers 71 = .ok (.goto 11, 3) := by decide +kernel
theorem dX10_findRingers_74 : decode cX10_findRingers 74 = .ok (.iload_n 3, 1) := by decide +kernel
theorem dX10_findRingers_75 : decode cX10_findRingers 75 = .ok (.iconst 0, 1) := by decide +kernel
theorem dX10_findRingers_76 : decode cX10_findRingers 76 = .ok (.iload 5, 2) := by decide +kernel
theorem dX10_findRingers_78 : decode cX10_findRingers 78 = .ok (.isub, 1) := by decide +kernel
theorem dX10_findRingers_79 : decode cX10_findRingers 79 = .ok (.invokestatic 288, 3) := by decide +kernel
theorem dX10_findRingers_82 : decode cX10_findRingers 82 = .ok (.putfield 285, 3) := by decide +kernel
theorem dX10_findRingers_85 : decode cX10_findRingers 85 = .ok (.return_, 1) := by decide +kernel
theorem dX10_isAhead_0 : decode cX10_isAhead 0 = .ok (.iconst 1, 1) := by decide +kernel
theorem dX10_isAhead_1 : decode cX10_isAhead 1 = .ok (.istore 4, 2) := by decide +kernel
theorem dX10_isAhead_3 : decode cX10_isAhead 3 = .ok (.ldc2_w 295, 3) := by decide +kernel
theorem dX10_isAhead_6 : decode cX10_isAhead 6 = .ok (.aload_n 0, 1) := by decide +kernel
theorem dX10_isAhead_7 : decode cX10_isAhead 7 = .ok (.getfield 51, 3) := by decide +kernel
theorem dX10_isAhead_10 : decode cX10_isAhead 10 = .ok (.bipush 8, 2) := by decide +kernel
theorem dX10_isAhead_12 : decode cX10_isAhead 12 = .ok (.iload_n 1, 1) := by decide +kernel
theorem dX10_isAhead_13 : decode cX10_isAhead 13 = .ok (.imul, 1) := by decide +kernel
theorem dX10_isAhead_14 : decode cX10_isAhead 14 = .ok (.iconst 3, 1) := by decide +kernel
theorem dX10_isAhead_15 : decode cX10_isAhead 15 = .ok (.iadd, 1) := by decide +kernel
theorem dX10_isAhead_16 : decode cX10_isAhead 16 = .ok (.iaload, 1) := by decide +kernel
theorem dX10_isAhead_17 : decode cX10_isAhead 17 = .ok (.i2l, 1) := by decide +kernel
theorem dX10_isAhead_18 : decode cX10_isAhead 18 = .ok (.lmul, 1) := by decide +kernel
theorem dX10_isAhead_19 : decode cX10_isAhead 19 = .ok (.lstore 5, 2) := by decide +kernel
theorem dX10_isAhead_21 : decode cX10_isAhead 21 = .ok (.iconst 0, 1) := by decide +kernel
theorem dX10_isAhead_22 : decode cX10_isAhead 22 = .ok (.istore 7, 2) := by decide +kernel
theorem dX10_isAhead_24 : decode cX10_isAhead 24 = .ok (.iload 7, 2) := by decide +kernel
theorem dX10_isAhead_26 : decode cX10_isAhead 26 = .ok (.aload_n 0, 1) := by decide +kernel
theorem dX10_isAhead_27 : decode cX10_isAhead 27 = .ok (.getfield 114, 3) := by decide +kernel
theorem dX10_isAhead_30 : decode cX10_isAhead 30 = .ok (.if_icmp .ge 65, 3) := by decide +kernel
theorem dX10_isAhead_33 : decode cX10_isAhead 33 = .ok (.iload 4, 2) := by decide +kernel
theorem dX10_isAhead_35 : decode cX10_isAhead 35 = .ok (.ifCond .eq 51, 3) := by decide +kernel
theorem dX10_isAhead_38 : decode cX10_isAhead 38 = .ok (.iload_n 3, 1) := by decide +kernel
theorem dX10_isAhead_39 : decode cX10_isAhead 39 = .ok (.iload 7, 2) := by decide +kernel
theorem dX10_isAhead_41 : decode cX10_isAhead 41 = .ok (.ishr, 1) := by decide +kernel
theorem dX10_isAhead_42 : decode cX10_isAhead 42 = .ok (.iconst 1, 1) := by decide +kernel
theorem dX10_isAhead_43 : decode cX10_isAhead 43 = .ok (.iand, 1) := by decide +kernel
theorem dX10_isAhead_44 : decode cX10_isAhead 44 = .ok (.ifCond .eq 38, 3) := by decide +kernel
theorem dX10_isAhead_47 : decode cX10_isAhead 47 = .ok (.aload_n 0, 1) := by decide +kernel
theorem dX10_isAhead_48 : decode cX10_isAhead 48 = .ok (.getfield 60, 3) := by decide +kernel
theorem dX10_isAhead_51 : decode cX10_isAhead 51 = .ok (.iload_n 2, 1) := by decide +kernel
theorem dX10_isAhead_52 : decode cX10_isAhead 52 = .ok (.laload, 1) := by decide +kernel
theorem dX10_isAhead_53 : decode cX10_isAhead 53 = .ok (.aload_n 0, 1) := by decide +kernel
theorem dX10_isAhead_54 : decode cX10_isAhead 54 = .ok (.getfield 64, 3) := by decide +kernel
theorem dX10_isAhead_57 : decode cX10_isAhead 57 = .ok (.iload_n 2, 1) := by decide +kernel
theorem dX10_isAhead_58 : decode cX10_isAhead 58 = .ok (.laload, 1) := by decide +kernel
theorem dX10_isAhead_59 : decode cX10_isAhead 59 = .ok (.lload 5, 2) := by decide +kernel
theorem dX10_isAhead_61 : decode cX10_isAhead 61 = .ok (.ladd, 1) := by decide +kernel
theorem dX10_isAhead_62 : decode cX10_isAhead 62 = .ok (.aload_n 0, 1) := by decide +kernel
theorem dX10_isAhead_63 : decode cX10_isAhead 63 = .ok (.getfield 60, 3) := by decide +kernel
theorem dX10_isAhead_66 : decode cX10_isAhead 66 = .ok (.iload 7, 2) := by decide +kernel
theorem dX10_isAhead_68 : decode cX10_isAhead 68 = .ok (.laload, 1) := by decide +kernel
theorem dX10_isAhead_69 : decode cX10_isAhead 69 = .ok (.aload_n 0, 1) := by decide +kernel
theorem dX10_isAhead_70 : decode cX10_isAhead 70 = .ok (.getfield 64, 3) := by decide +kernel
theorem dX10_isAhead_73 : decode cX10_isAhead 73 = .ok (.iload 7, 2) := by decide +kernel
theorem dX10_isAhead_75 : decode cX10_isAhead 75 = .ok (.laload, 1) := by decide +kernel
theorem dX10_isAhead_76 : decode cX10_isAhead 76 = .ok (.invokestatic 182, 3) := by decide +kernel
theorem dX10_isAhead_79 : decode cX10_isAhead 79 = .ok (.ifCond .ge 7, 3) := by decide +kernel
theorem dX10_isAhead_82 : decode cX10_isAhead 82 = .ok (.iconst 1, 1) := by decide +kernel
theorem dX10_isAhead_83 : decode cX10_isAhead 83 = .ok (.goto 4, 3) := by decide +kernel
theorem dX10_isAhead_86 : decode cX10_isAhead 86 = .ok (.iconst 0, 1) := by decide +kernel
theorem dX10_isAhead_87 : decode cX10_isAhead 87 = .ok (.istore 4, 2) := by decide +kernel
theorem dX10_isAhead_89 : decode cX10_isAhead 89 = .ok (.iinc 7 1, 3) := by decide +kernel
theorem dX10_isAhead_92 : decode cX10_isAhead 92 = .ok (.goto (-68), 3) := by decide +kernel
theorem dX10_isAhead_95 : decode cX10_isAhead 95 = .ok (.iload 4, 2) := by decide +kernel
theorem dX10_isAhead_97 : decode cX10_isAhead 97 = .ok (.ireturn, 1) := by decide +kernel
theorem dX10_findScore_0 : decode cX10_findScore 0 = .ok (.aload_n 0, 1) := by decide +kernel
theorem dX10_findScore_1 : decode cX10_findScore 1 = .ok (.iconst 0, 1) := by decide +kernel
theorem dX10_findScore_2 : decode cX10_findScore 2 = .ok (.putfield 297, 3) := by decide +kernel
theorem dX10_findScore_5 : decode cX10_findScore 5 = .ok (.iconst 0, 1) := by decide +kernel
theorem dX10_findScore_6 : decode cX10_findScore 6 = .ok (.istore_n 2, 1) := by decide +kernel
theorem dX10_findScore_7 : decode cX10_findScore 7 = .ok (.iconst 0, 1) := by decide +kernel
theorem dX10_findScore_8 : decode cX10_findScore 8 = .ok (.istore_n 3, 1) := by decide +kernel
theorem dX10_findScore_9 : decode cX10_findScore 9 = .ok (.iconst 0, 1) := by decide +kernel
theorem dX10_findScore_10 : decode cX10_findScore 10 = .ok (.istore 4, 2) := by decide +kernel
theorem dX10_findScore_12 : decode cX10_findScore 12 = .ok (.iload 4, 2) := by decide +kernel
theorem dX10_findScore_14 : decode cX10_findScore 14 = .ok (.aload_n 0, 1) := by decide +kernel
theorem dX10_findScore_15 : decode cX10_findScore 15 = .ok (.getfield 114, 3) := by decide +kernel
theorem dX10_findScore_18 : decode cX10_findScore 18 = .ok (.if_icmp .ge 59, 3) := by decide +kernel
theorem dX10_findScore_21 : decode cX10_findScore 21 = .ok (.aload_n 0, 1) := by decide +kernel
theorem dX10_findScore_22 : decode cX10_findScore 22 = .ok (.dup, 1) := by decide +kernel
theorem dX10_findScore_23 : decode cX10_findScore 23 = .ok (.getfield 297, 3) := by decide +kernel
theorem dX10_findScore_26 : decode cX10_findScore 26 = .ok (.aload_n 0, 1) := by decide +kernel
theorem dX10_findScore_27 : decode cX10_findScore 27 = .ok (.iload_n 1, 1) := by decide +kernel
theorem dX10_findScore_28 : decode cX10_findScore 28 = .ok (.iload 4, 2) := by decide +kernel
theorem dX10_findScore_30 : decode cX10_findScore 30 = .ok (.invokevirtual 300, 3) := by decide +kernel
theorem dX10_findScore_33 : decode cX10_findScore 33 = .ok (.invokestatic 155, 3) := by decide +kernel
theorem dX10_findScore_36 : decode cX10_findScore 36 = .ok (.iload 4, 2) := by decide +kernel
theorem dX10_findScore_38 : decode cX10_findScore 38 = .ok (.ishl, 1) := by decide +kernel
theorem dX10_findScore_39 : decode cX10_findScore 39 = .ok (.ior, 1) := by decide +kernel
theorem dX10_findScore_40 : decode cX10_findScore 40 = .ok (.putfield 297, 3) := by decide +kernel
theorem dX10_findScore_43 : decode cX10_findScore 43 = .ok (.iload_n 2, 1) := by decide +kernel
theorem dX10_findScore_44 : decode cX10_findScore 44 = .ok (.aload_n 0, 1) := by decide +kernel
theorem dX10_findScore_45 : decode cX10_findScore 45 = .ok (.iload 4, 2) := by decide +kernel
theorem dX10_findScore_47 : decode cX10_findScore 47 = .ok (.invokevirtual 159, 3) := by decide +kernel
theorem dX10_findScore_50 : decode cX10_findScore 50 = .ok (.invokestatic 155, 3) := by decide +kernel
theorem dX10_findScore_53 : decode cX10_findScore 53 = .ok (.iload 4, 2) := by decide +kernel
theorem dX10_findScore_55 : decode cX10_findScore 55 = .ok (.ishl, 1) := by decide +kernel
theorem dX10_findScore_56 : decode cX10_findScore 56 = .ok (.ior, 1) := by decide +kernel
theorem dX10_findScore_57 : decode cX10_findScore 57 = .ok (.istore_n 2, 1) := by decide +kernel
theorem dX10_findScore_58 : decode cX10_findScore 58 = .ok (.iload_n 3, 1) := by decide +kernel
theorem dX10_findScore_59 : decode cX10_findScore 59 = .ok (.aload_n 0, 1) := by decide +kernel
theorem dX10_findScore_60 : decode cX10_findScore 60 = .ok (.getfield 7, 3) := by decide +kernel
theorem dX10_findScore_63 : decode cX10_findScore 63 = .ok (.iload 4, 2) := by decide +kernel
theorem dX10_findScore_65 : decode cX10_findScore 65 = .ok (.iaload, 1) := by decide +kernel
theorem dX10_findScore_66 : decode cX10_findScore 66 = .ok (.iload 4, 2) := by decide +kernel
theorem dX10_findScore_68 : decode cX10_findScore 68 = .ok (.ishl, 1) := by decide +kernel
theorem dX10_findScore_69 : decode cX10_findScore 69 = .ok (.ior, 1) := by decide +kernel
theorem dX10_findScore_70 : decode cX10_findScore 70 = .ok (.istore_n 3, 1) := by decide +kernel
theorem dX10_findScore_71 : decode cX10_findScore 71 = .ok (.iinc 4 1, 3) := by decide +kernel
theorem dX10_findScore_74 : decode cX10_findScore 74 = .ok (.goto (-62), 3) := by decide +kernel
theorem dX10_findScore_77 : decode cX10_findScore 77 = .ok (.aload_n 0, 1) := by decide +kernel
theorem dX10_findScore_78 : decode cX10_findScore 78 = .ok (.iload_n 1, 1) := by decide +kernel
theorem dX10_findScore_79 : decode cX10_findScore 79 = .ok (.aload_n 0, 1) := by decide +kernel
theorem dX10_findScore_80 : decode cX10_findScore 80 = .ok (.getfield 297, 3) := by decide +kernel
theorem dX10_findScore_83 : decode cX10_findScore 83 = .ok (.iload_n 2, 1) := by decide +kernel
theorem dX10_findScore_84 : decode cX10_findScore 84 = .ok (.iand, 1) := by decide +kernel
theorem dX10_findScore_85 : decode cX10_findScore 85 = .ok (.iload_n 3, 1) := by decide +kernel
theorem dX10_findScore_86 : decode cX10_findScore 86 = .ok (.iconst (-1), 1) := by decide +kernel
theorem dX10_findScore_87 : decode cX10_findScore 87 = .ok (.ixor, 1) := by decide +kernel
theorem dX10_findScore_88 : decode cX10_findScore 88 = .ok (.iand, 1) := by decide +kernel
theorem dX10_findScore_89 : decode cX10_findScore 89 = .ok (.aload_n 0, 1) := by decide +kernel
theorem dX10_findScore_90 : decode cX10_findScore 90 = .ok (.getfield 297, 3) := by decide +kernel
theorem dX10_findScore_93 : decode cX10_findScore 93 = .ok (.iload_n 2, 1) := by decide +kernel
theorem dX10_findScore_94 : decode cX10_findScore 94 = .ok (.iand, 1) := by decide +kernel
theorem dX10_findScore_95 : decode cX10_findScore 95 = .ok (.iload_n 3, 1) := by decide +kernel
theorem dX10_findScore_96 : decode cX10_findScore 96 = .ok (.iand, 1) := by decide +kernel
theorem dX10_findScore_97 : decode cX10_findScore 97 = .ok (.invokevirtual 303, 3) := by decide +kernel
theorem dX10_findScore_100 : decode cX10_findScore 100 = .ok (.aload_n 0, 1) := by decide +kernel
theorem dX10_findScore_101 : decode cX10_findScore 101 = .ok (.iconst 0, 1) := by decide +kernel
theorem dX10_findScore_102 : decode cX10_findScore 102 = .ok (.putfield 307, 3) := by decide +kernel
theorem dX10_findScore_105 : decode cX10_findScore 105 = .ok (.iconst 0, 1) := by decide +kernel
theorem dX10_findScore_106 : decode cX10_findScore 106 = .ok (.istore 4, 2) := by decide +kernel
theorem dX10_findScore_108 : decode cX10_findScore 108 = .ok (.iload 4, 2) := by decide +kernel
theorem dX10_findScore_110 : decode cX10_findScore 110 = .ok (.iconst 2, 1) := by decide +kernel
theorem dX10_findScore_111 : decode cX10_findScore 111 = .ok (.if_icmp .ge 201, 3) := by decide +kernel
theorem dX10_findScore_114 : decode cX10_findScore 114 = .ok (.aload_n 0, 1) := by decide +kernel
end
section
theorem dX10_findScore_115 : decode cX10_findScore 115 = .ok (.getfield 297, 3) := by decide +kernel
theorem dX10_findScore_118 : decode cX10_findScore 118 = .ok (.iload_n 2, 1) := by decide +kernel
theorem dX10_findScore_119 : decode cX10_findScore 119 = .ok (.iconst (-1), 1) := by decide +kernel
theorem dX10_findScore_120 : decode cX10_findScore 120 = .ok (.ixor, 1) := by decide +kernel
theorem dX10_findScore_121 : decode cX10_findScore 121 = .ok (.iand, 1) := by decide +kernel
theorem dX10_findScore_122 : decode cX10_findScore 122 = .ok (.iload 4, 2) := by decide +kernel
theorem dX10_findScore_124 : decode cX10_findScore 124 = .ok (.ifCond .ne 9, 3) := by decide +kernel
theorem dX10_findScore_127 : decode cX10_findScore 127 = .ok (.iload_n 3, 1) := by decide +kernel
theorem dX10_findScore_128 : decode cX10_findScore 128 = .ok (.iconst (-1), 1) := by decide +kernel
theorem dX10_findScore_129 : decode cX10_findScore 129 = .ok (.ixor, 1) := by decide +kernel
theorem dX10_findScore_130 : decode cX10_findScore 130 = .ok (.goto 4, 3) := by decide +kernel
theorem dX10_findScore_133 : decode cX10_findScore 133 = .ok (.iload_n 3, 1) := by decide +kernel
theorem dX10_findScore_134 : decode cX10_findScore 134 = .ok (.iand, 1) := by decide +kernel
theorem dX10_findScore_135 : decode cX10_findScore 135 = .ok (.istore 5, 2) := by decide +kernel
theorem dX10_findScore_137 : decode cX10_findScore 137 = .ok (.aload_n 0, 1) := by decide +kernel
theorem dX10_findScore_138 : decode cX10_findScore 138 = .ok (.getfield 297, 3) := by decide +kernel
theorem dX10_findScore_141 : decode cX10_findScore 141 = .ok (.iload_n 2, 1) := by decide +kernel
theorem dX10_findScore_142 : decode cX10_findScore 142 = .ok (.iconst (-1), 1) := by decide +kernel
theorem dX10_findScore_143 : decode cX10_findScore 143 = .ok (.ixor, 1) := by decide +kernel
theorem dX10_findScore_144 : decode cX10_findScore 144 = .ok (.iand, 1) := by decide +kernel
theorem dX10_findScore_145 : decode cX10_findScore 145 = .ok (.iload 5, 2) := by decide +kernel
theorem dX10_findScore_147 : decode cX10_findScore 147 = .ok (.iconst (-1), 1) := by decide +kernel
theorem dX10_findScore_148 : decode cX10_findScore 148 = .ok (.ixor, 1) := by decide +kernel
theorem dX10_findScore_149 : decode cX10_findScore 149 = .ok (.iand, 1) := by decide +kernel
theorem dX10_findScore_150 : decode cX10_findScore 150 = .ok (.istore 6, 2) := by decide +kernel
theorem dX10_findScore_152 : decode cX10_findScore 152 = .ok (.iconst 0, 1) := by decide +kernel
theorem dX10_findScore_153 : decode cX10_findScore 153 = .ok (.istore 7, 2) := by decide +kernel
theorem dX10_findScore_155 : decode cX10_findScore 155 = .ok (.iconst 0, 1) := by decide +kernel
theorem dX10_findScore_156 : decode cX10_findScore 156 = .ok (.istore 8, 2) := by decide +kernel
theorem dX10_findScore_158 : decode cX10_findScore 158 = .ok (.iload 8, 2) := by decide +kernel
theorem dX10_findScore_160 : decode cX10_findScore 160 = .ok (.aload_n 0, 1) := by decide +kernel
theorem dX10_findScore_161 : decode cX10_findScore 161 = .ok (.getfield 114, 3) := by decide +kernel
theorem dX10_findScore_164 : decode cX10_findScore 164 = .ok (.if_icmp .ge 48, 3) := by decide +kernel
theorem dX10_findScore_167 : decode cX10_findScore 167 = .ok (.iload 7, 2) := by decide +kernel
theorem dX10_findScore_169 : decode cX10_findScore 169 = .ok (.iload 5, 2) := by decide +kernel
theorem dX10_findScore_171 : decode cX10_findScore 171 = .ok (.iload 8, 2) := by decide +kernel
theorem dX10_findScore_173 : decode cX10_findScore 173 = .ok (.ishr, 1) := by decide +kernel
theorem dX10_findScore_174 : decode cX10_findScore 174 = .ok (.iconst 1, 1) := by decide +kernel
theorem dX10_findScore_175 : decode cX10_findScore 175 = .ok (.iand, 1) := by decide +kernel
theorem dX10_findScore_176 : decode cX10_findScore 176 = .ok (.iconst 1, 1) := by decide +kernel
theorem dX10_findScore_177 : decode cX10_findScore 177 = .ok (.if_icmp .ne 19, 3) := by decide +kernel
theorem dX10_findScore_180 : decode cX10_findScore 180 = .ok (.aload_n 0, 1) := by decide +kernel
theorem dX10_findScore_181 : decode cX10_findScore 181 = .ok (.iload_n 1, 1) := by decide +kernel
theorem dX10_findScore_182 : decode cX10_findScore 182 = .ok (.iload 8, 2) := by decide +kernel
theorem dX10_findScore_184 : decode cX10_findScore 184 = .ok (.iload 6, 2) := by decide +kernel
theorem dX10_findScore_186 : decode cX10_findScore 186 = .ok (.invokevirtual 310, 3) := by decide +kernel
theorem dX10_findScore_189 : decode cX10_findScore 189 = .ok (.ifCond .eq 7, 3) := by decide +kernel
theorem dX10_findScore_192 : decode cX10_findScore 192 = .ok (.iconst 1, 1) := by decide +kernel
theorem dX10_findScore_193 : decode cX10_findScore 193 = .ok (.goto 4, 3) := by decide +kernel
theorem dX10_findScore_196 : decode cX10_findScore 196 = .ok (.iconst 0, 1) := by decide +kernel
theorem dX10_findScore_197 : decode cX10_findScore 197 = .ok (.invokestatic 155, 3) := by decide +kernel
theorem dX10_findScore_200 : decode cX10_findScore 200 = .ok (.iload 8, 2) := by decide +kernel
theorem dX10_findScore_202 : decode cX10_findScore 202 = .ok (.ishl, 1) := by decide +kernel
theorem dX10_findScore_203 : decode cX10_findScore 203 = .ok (.ior, 1) := by decide +kernel
theorem dX10_findScore_204 : decode cX10_findScore 204 = .ok (.istore 7, 2) := by decide +kernel
theorem dX10_findScore_206 : decode cX10_findScore 206 = .ok (.iinc 8 1, 3) := by decide +kernel
theorem dX10_findScore_209 : decode cX10_findScore 209 = .ok (.goto (-51), 3) := by decide +kernel
theorem dX10_findScore_212 : decode cX10_findScore 212 = .ok (.iload 7, 2) := by decide +kernel
theorem dX10_findScore_214 : decode cX10_findScore 214 = .ok (.aload_n 0, 1) := by decide +kernel
theorem dX10_findScore_215 : decode cX10_findScore 215 = .ok (.getfield 51, 3) := by decide +kernel
theorem dX10_findScore_218 : decode cX10_findScore 218 = .ok (.bipush 8, 2) := by decide +kernel
theorem dX10_findScore_220 : decode cX10_findScore 220 = .ok (.iload_n 1, 1) := by decide +kernel
theorem dX10_findScore_221 : decode cX10_findScore 221 = .ok (.imul, 1) := by decide +kernel
theorem dX10_findScore_222 : decode cX10_findScore 222 = .ok (.iconst 2, 1) := by decide +kernel
theorem dX10_findScore_223 : decode cX10_findScore 223 = .ok (.iadd, 1) := by decide +kernel
theorem dX10_findScore_224 : decode cX10_findScore 224 = .ok (.iaload, 1) := by decide +kernel
theorem dX10_findScore_225 : decode cX10_findScore 225 = .ok (.invokestatic 314, 3) := by decide +kernel
theorem dX10_findScore_228 : decode cX10_findScore 228 = .ok (.istore 8, 2) := by decide +kernel
theorem dX10_findScore_230 : decode cX10_findScore 230 = .ok (.aload_n 0, 1) := by decide +kernel
theorem dX10_findScore_231 : decode cX10_findScore 231 = .ok (.dup, 1) := by decide +kernel
theorem dX10_findScore_232 : decode cX10_findScore 232 = .ok (.getfield 307, 3) := by decide +kernel
theorem dX10_findScore_235 : decode cX10_findScore 235 = .ok (.iload 8, 2) := by decide +kernel
theorem dX10_findScore_237 : decode cX10_findScore 237 = .ok (.ior, 1) := by decide +kernel
theorem dX10_findScore_238 : decode cX10_findScore 238 = .ok (.putfield 307, 3) := by decide +kernel
theorem dX10_findScore_241 : decode cX10_findScore 241 = .ok (.aload_n 0, 1) := by decide +kernel
theorem dX10_findScore_242 : decode cX10_findScore 242 = .ok (.getfield 285, 3) := by decide +kernel
theorem dX10_findScore_245 : decode cX10_findScore 245 = .ok (.iload 4, 2) := by decide +kernel
theorem dX10_findScore_247 : decode cX10_findScore 247 = .ok (.ifCond .ne 9, 3) := by decide +kernel
theorem dX10_findScore_250 : decode cX10_findScore 250 = .ok (.iload_n 3, 1) := by decide +kernel
theorem dX10_findScore_251 : decode cX10_findScore 251 = .ok (.iconst (-1), 1) := by decide +kernel
theorem dX10_findScore_252 : decode cX10_findScore 252 = .ok (.ixor, 1) := by decide +kernel
theorem dX10_findScore_253 : decode cX10_findScore 253 = .ok (.goto 4, 3) := by decide +kernel
theorem dX10_findScore_256 : decode cX10_findScore 256 = .ok (.iload_n 3, 1) := by decide +kernel
theorem dX10_findScore_257 : decode cX10_findScore 257 = .ok (.iand, 1) := by decide +kernel
theorem dX10_findScore_258 : decode cX10_findScore 258 = .ok (.istore 9, 2) := by decide +kernel
theorem dX10_findScore_260 : decode cX10_findScore 260 = .ok (.aload_n 0, 1) := by decide +kernel
theorem dX10_findScore_261 : decode cX10_findScore 261 = .ok (.getfield 57, 3) := by decide +kernel
theorem dX10_findScore_264 : decode cX10_findScore 264 = .ok (.iload 4, 2) := by decide +kernel
theorem dX10_findScore_266 : decode cX10_findScore 266 = .ok (.aload_n 0, 1) := by decide +kernel
theorem dX10_findScore_267 : decode cX10_findScore 267 = .ok (.getfield 51, 3) := by decide +kernel
theorem dX10_findScore_270 : decode cX10_findScore 270 = .ok (.bipush 8, 2) := by decide +kernel
theorem dX10_findScore_272 : decode cX10_findScore 272 = .ok (.iload_n 1, 1) := by decide +kernel
theorem dX10_findScore_273 : decode cX10_findScore 273 = .ok (.imul, 1) := by decide +kernel
theorem dX10_findScore_274 : decode cX10_findScore 274 = .ok (.iconst 1, 1) := by decide +kernel
theorem dX10_findScore_275 : decode cX10_findScore 275 = .ok (.iadd, 1) := by decide +kernel
theorem dX10_findScore_276 : decode cX10_findScore 276 = .ok (.iaload, 1) := by decide +kernel
theorem dX10_findScore_277 : decode cX10_findScore 277 = .ok (.iload 8, 2) := by decide +kernel
theorem dX10_findScore_279 : decode cX10_findScore 279 = .ok (.invokestatic 292, 3) := by decide +kernel
theorem dX10_findScore_282 : decode cX10_findScore 282 = .ok (.imul, 1) := by decide +kernel
theorem dX10_findScore_283 : decode cX10_findScore 283 = .ok (.aload_n 0, 1) := by decide +kernel
theorem dX10_findScore_284 : decode cX10_findScore 284 = .ok (.getfield 51, 3) := by decide +kernel
theorem dX10_findScore_287 : decode cX10_findScore 287 = .ok (.bipush 8, 2) := by decide +kernel
theorem dX10_findScore_289 : decode cX10_findScore 289 = .ok (.iload_n 1, 1) := by decide +kernel
theorem dX10_findScore_290 : decode cX10_findScore 290 = .ok (.imul, 1) := by decide +kernel
theorem dX10_findScore_291 : decode cX10_findScore 291 = .ok (.iconst 0, 1) := by decide +kernel
theorem dX10_findScore_292 : decode cX10_findScore 292 = .ok (.iadd, 1) := by decide +kernel
theorem dX10_findScore_293 : decode cX10_findScore 293 = .ok (.iaload, 1) := by decide +kernel
theorem dX10_findScore_294 : decode cX10_findScore 294 = .ok (.iload 9, 2) := by decide +kernel
theorem dX10_findScore_296 : decode cX10_findScore 296 = .ok (.sipush 4095, 3) := by decide +kernel
theorem dX10_findScore_299 : decode cX10_findScore 299 = .ok (.iand, 1) := by decide +kernel
theorem dX10_findScore_300 : decode cX10_findScore 300 = .ok (.invokestatic 292, 3) := by decide +kernel
theorem dX10_findScore_303 : decode cX10_findScore 303 = .ok (.imul, 1) := by decide +kernel
theorem dX10_findScore_304 : decode cX10_findScore 304 = .ok (.iadd, 1) := by decide +kernel
theorem dX10_findScore_305 : decode cX10_findScore 305 = .ok (.iastore, 1) := by decide +kernel
theorem dX10_findScore_306 : decode cX10_findScore 306 = .ok (.iinc 4 1, 3) := by decide +kernel
theorem dX10_findScore_309 : decode cX10_findScore 309 = .ok (.goto (-201), 3) := by decide +kernel
theorem dX10_findScore_312 : decode cX10_findScore 312 = .ok (.return_, 1) := by decide +kernel
theorem dX10_layNearness_0 : decode cX10_layNearness 0 = .ok (.aload_n 0, 1) := by decide +kernel
theorem dX10_layNearness_1 : decode cX10_layNearness 1 = .ok (.getfield 60, 3) := by decide +kernel
theorem dX10_layNearness_4 : decode cX10_layNearness 4 = .ok (.iload_n 1, 1) := by decide +kernel
theorem dX10_layNearness_5 : decode cX10_layNearness 5 = .ok (.ldc2_w 317, 3) := by decide +kernel
theorem dX10_layNearness_8 : decode cX10_layNearness 8 = .ok (.aload_n 0, 1) := by decide +kernel
theorem dX10_layNearness_9 : decode cX10_layNearness 9 = .ok (.iload_n 1, 1) := by decide +kernel
theorem dX10_layNearness_10 : decode cX10_layNearness 10 = .ok (.invokevirtual 175, 3) := by decide +kernel
theorem dX10_layNearness_13 : decode cX10_layNearness 13 = .ok (.lmul, 1) := by decide +kernel
theorem dX10_layNearness_14 : decode cX10_layNearness 14 = .ok (.lastore, 1) := by decide +kernel
theorem dX10_layNearness_15 : decode cX10_layNearness 15 = .ok (.aload_n 0, 1) := by decide +kernel
theorem dX10_layNearness_16 : decode cX10_layNearness 16 = .ok (.getfield 64, 3) := by decide +kernel
theorem dX10_layNearness_19 : decode cX10_layNearness 19 = .ok (.iload_n 1, 1) := by decide +kernel
theorem dX10_layNearness_20 : decode cX10_layNearness 20 = .ok (.ldc2_w 295, 3) := by decide +kernel
theorem dX10_layNearness_23 : decode cX10_layNearness 23 = .ok (.aload_n 0, 1) := by decide +kernel
theorem dX10_layNearness_24 : decode cX10_layNearness 24 = .ok (.iload_n 1, 1) := by decide +kernel
theorem dX10_layNearness_25 : decode cX10_layNearness 25 = .ok (.invokevirtual 179, 3) := by decide +kernel
theorem dX10_layNearness_28 : decode cX10_layNearness 28 = .ok (.lmul, 1) := by decide +kernel
theorem dX10_layNearness_29 : decode cX10_layNearness 29 = .ok (.lastore, 1) := by decide +kernel
theorem dX10_layNearness_30 : decode cX10_layNearness 30 = .ok (.return_, 1) := by decide +kernel
theorem dX10_score_0 : decode cX10_score 0 = .ok (.iload_n 1, 1) := by decide +kernel
theorem dX10_score_1 : decode cX10_score 1 = .ok (.invokestatic 277, 3) := by decide +kernel
theorem dX10_score_4 : decode cX10_score 4 = .ok (.ifCond .ne 7, 3) := by decide +kernel
theorem dX10_score_7 : decode cX10_score 7 = .ok (.sipush (-1001), 3) := by decide +kernel
theorem dX10_score_10 : decode cX10_score 10 = .ok (.ireturn, 1) := by decide +kernel
theorem dX10_score_11 : decode cX10_score 11 = .ok (.iconst 0, 1) := by decide +kernel
theorem dX10_score_12 : decode cX10_score 12 = .ok (.istore_n 3, 1) := by decide +kernel
theorem dX10_score_13 : decode cX10_score 13 = .ok (.iload_n 3, 1) := by decide +kernel
theorem dX10_score_14 : decode cX10_score 14 = .ok (.aload_n 0, 1) := by decide +kernel
theorem dX10_score_15 : decode cX10_score 15 = .ok (.getfield 114, 3) := by decide +kernel
theorem dX10_score_18 : decode cX10_score 18 = .ok (.if_icmp .ge 14, 3) := by decide +kernel
theorem dX10_score_21 : decode cX10_score 21 = .ok (.aload_n 0, 1) := by decide +kernel
theorem dX10_score_22 : decode cX10_score 22 = .ok (.iload_n 3, 1) := by decide +kernel
theorem dX10_score_23 : decode cX10_score 23 = .ok (.invokevirtual 319, 3) := by decide +kernel
theorem dX10_score_26 : decode cX10_score 26 = .ok (.iinc 3 1, 3) := by decide +kernel
theorem dX10_score_29 : decode cX10_score 29 = .ok (.goto (-16), 3) := by decide +kernel
theorem dX10_score_32 : decode cX10_score 32 = .ok (.aload_n 0, 1) := by decide +kernel
theorem dX10_score_33 : decode cX10_score 33 = .ok (.iload_n 1, 1) := by decide +kernel
theorem dX10_score_34 : decode cX10_score 34 = .ok (.invokevirtual 322, 3) := by decide +kernel
theorem dX10_score_37 : decode cX10_score 37 = .ok (.iload_n 2, 1) := by decide +kernel
theorem dX10_score_38 : decode cX10_score 38 = .ok (.tableswitch 81 0 5 #[38, 52, 59, 66, 71, 76], 38) := by decide +kernel
theorem dX10_score_76 : decode cX10_score 76 = .ok (.aload_n 0, 1) := by decide +kernel
theorem dX10_score_77 : decode cX10_score 77 = .ok (.getfield 57, 3) := by decide +kernel
theorem dX10_score_80 : decode cX10_score 80 = .ok (.iconst 0, 1) := by decide +kernel
theorem dX10_score_81 : decode cX10_score 81 = .ok (.iaload, 1) := by decide +kernel
theorem dX10_score_82 : decode cX10_score 82 = .ok (.aload_n 0, 1) := by decide +kernel
theorem dX10_score_83 : decode cX10_score 83 = .ok (.getfield 57, 3) := by decide +kernel
theorem dX10_score_86 : decode cX10_score 86 = .ok (.iconst 1, 1) := by decide +kernel
theorem dX10_score_87 : decode cX10_score 87 = .ok (.iaload, 1) := by decide +kernel
theorem dX10_score_88 : decode cX10_score 88 = .ok (.isub, 1) := by decide +kernel
theorem dX10_score_89 : decode cX10_score 89 = .ok (.ireturn, 1) := by decide +kernel
theorem dX10_score_90 : decode cX10_score 90 = .ok (.aload_n 0, 1) := by decide +kernel
theorem dX10_score_91 : decode cX10_score 91 = .ok (.getfield 57, 3) := by decide +kernel
theorem dX10_score_94 : decode cX10_score 94 = .ok (.iconst 0, 1) := by decide +kernel
theorem dX10_score_95 : decode cX10_score 95 = .ok (.iaload, 1) := by decide +kernel
theorem dX10_score_96 : decode cX10_score 96 = .ok (.ireturn, 1) := by decide +kernel
theorem dX10_score_97 : decode cX10_score 97 = .ok (.aload_n 0, 1) := by decide +kernel
theorem dX10_score_98 : decode cX10_score 98 = .ok (.getfield 57, 3) := by decide +kernel
theorem dX10_score_101 : decode cX10_score 101 = .ok (.iconst 1, 1) := by decide +kernel
theorem dX10_score_102 : decode cX10_score 102 = .ok (.iaload, 1) := by decide +kernel
theorem dX10_score_103 : decode cX10_score 103 = .ok (.ireturn, 1) := by decide +kernel
theorem dX10_score_104 : decode cX10_score 104 = .ok (.aload_n 0, 1) := by decide +kernel
theorem dX10_score_105 : decode cX10_score 105 = .ok (.getfield 297, 3) := by decide +kernel
theorem dX10_score_108 : decode cX10_score 108 = .ok (.ireturn, 1) := by decide +kernel
theorem dX10_score_109 : decode cX10_score 109 = .ok (.aload_n 0, 1) := by decide +kernel
theorem dX10_score_110 : decode cX10_score 110 = .ok (.getfield 285, 3) := by decide +kernel
theorem dX10_score_113 : decode cX10_score 113 = .ok (.ireturn, 1) := by decide +kernel
theorem dX10_score_114 : decode cX10_score 114 = .ok (.aload_n 0, 1) := by decide +kernel
theorem dX10_score_115 : decode cX10_score 115 = .ok (.getfield 307, 3) := by decide +kernel
theorem dX10_score_118 : decode cX10_score 118 = .ok (.ireturn, 1) := by decide +kernel
theorem dX10_score_119 : decode cX10_score 119 = .ok (.sipush (-1002), 3) := by decide +kernel
theorem dX10_score_122 : decode cX10_score 122 = .ok (.ireturn, 1) := by decide +kernel
theorem dX10_hasSpan_0 : decode cX10_hasSpan 0 = .ok (.aload_n 0, 1) := by decide +kernel
theorem dX10_hasSpan_1 : decode cX10_hasSpan 1 = .ok (.getfield 35, 3) := by decide +kernel
theorem dX10_hasSpan_4 : decode cX10_hasSpan 4 = .ok (.iconst 3, 1) := by decide +kernel
theorem dX10_hasSpan_5 : decode cX10_hasSpan 5 = .ok (.iload_n 1, 1) := by decide +kernel
theorem dX10_hasSpan_6 : decode cX10_hasSpan 6 = .ok (.imul, 1) := by decide +kernel
theorem dX10_hasSpan_7 : decode cX10_hasSpan 7 = .ok (.baload, 1) := by decide +kernel
theorem dX10_hasSpan_8 : decode cX10_hasSpan 8 = .ok (.ifCond .ne 29, 3) := by decide +kernel
theorem dX10_hasSpan_11 : decode cX10_hasSpan 11 = .ok (.aload_n 0, 1) := by decide +kernel
theorem dX10_hasSpan_12 : decode cX10_hasSpan 12 = .ok (.getfield 35, 3) := by decide +kernel
theorem dX10_hasSpan_15 : decode cX10_hasSpan 15 = .ok (.iconst 3, 1) := by decide +kernel
theorem dX10_hasSpan_16 : decode cX10_hasSpan 16 = .ok (.iload_n 1, 1) := by decide +kernel
theorem dX10_hasSpan_17 : decode cX10_hasSpan 17 = .ok (.imul, 1) := by decide +kernel
theorem dX10_hasSpan_18 : decode cX10_hasSpan 18 = .ok (.iconst 1, 1) := by decide +kernel
theorem dX10_hasSpan_19 : decode cX10_hasSpan 19 = .ok (.iadd, 1) := by decide +kernel
theorem dX10_hasSpan_20 : decode cX10_hasSpan 20 = .ok (.baload, 1) := by decide +kernel
theorem dX10_hasSpan_21 : decode cX10_hasSpan 21 = .ok (.ifCond .ne 16, 3) := by decide +kernel
theorem dX10_hasSpan_24 : decode cX10_hasSpan 24 = .ok (.aload_n 0, 1) := by decide +kernel
theorem dX10_hasSpan_25 : decode cX10_hasSpan 25 = .ok (.getfield 35, 3) := by decide +kernel
theorem dX10_hasSpan_28 : decode cX10_hasSpan 28 = .ok (.iconst 3, 1) := by decide +kernel
theorem dX10_hasSpan_29 : decode cX10_hasSpan 29 = .ok (.iload_n 1, 1) := by decide +kernel
theorem dX10_hasSpan_30 : decode cX10_hasSpan 30 = .ok (.imul, 1) := by decide +kernel
theorem dX10_hasSpan_31 : decode cX10_hasSpan 31 = .ok (.iconst 2, 1) := by decide +kernel
theorem dX10_hasSpan_32 : decode cX10_hasSpan 32 = .ok (.iadd, 1) := by decide +kernel
theorem dX10_hasSpan_33 : decode cX10_hasSpan 33 = .ok (.baload, 1) := by decide +kernel
theorem dX10_hasSpan_34 : decode cX10_hasSpan 34 = .ok (.ifCond .eq 7, 3) := by decide +kernel
theorem dX10_hasSpan_37 : decode cX10_hasSpan 37 = .ok (.iconst 1, 1) := by decide +kernel
theorem dX10_hasSpan_38 : decode cX10_hasSpan 38 = .ok (.goto 4, 3) := by decide +kernel
theorem dX10_hasSpan_41 : decode cX10_hasSpan 41 = .ok (.iconst 0, 1) := by decide +kernel
theorem dX10_hasSpan_42 : decode cX10_hasSpan 42 = .ok (.ireturn, 1) := by decide +kernel
theorem dX10_spanOf_0 : decode cX10_spanOf 0 = .ok (.iload_n 2, 1) := by decide +kernel
theorem dX10_spanOf_1 : decode cX10_spanOf 1 = .ok (.ifCond .eq 9, 3) := by decide +kernel
theorem dX10_spanOf_4 : decode cX10_spanOf 4 = .ok (.sipush 9999, 3) := by decide +kernel
theorem dX10_spanOf_7 : decode cX10_spanOf 7 = .ok (.goto 4, 3) := by decide +kernel
theorem dX10_spanOf_10 : decode cX10_spanOf 10 = .ok (.iconst 0, 1) := by decide +kernel
theorem dX10_spanOf_11 : decode cX10_spanOf 11 = .ok (.istore_n 3, 1) := by decide +kernel
theorem dX10_spanOf_12 : decode cX10_spanOf 12 = .ok (.iconst 0, 1) := by decide +kernel
theorem dX10_spanOf_13 : decode cX10_spanOf 13 = .ok (.istore 4, 2) := by decide +kernel
theorem dX10_spanOf_15 : decode cX10_spanOf 15 = .ok (.iload 4, 2) := by decide +kernel
theorem dX10_spanOf_17 : decode cX10_spanOf 17 = .ok (.iconst 3, 1) := by decide +kernel
theorem dX10_spanOf_18 : decode cX10_spanOf 18 = .ok (.if_icmp .ge 79, 3) := by decide +kernel
theorem dX10_spanOf_21 : decode cX10_spanOf 21 = .ok (.iconst 3, 1) := by decide +kernel
theorem dX10_spanOf_22 : decode cX10_spanOf 22 = .ok (.iload_n 1, 1) := by decide +kernel
theorem dX10_spanOf_23 : decode cX10_spanOf 23 = .ok (.imul, 1) := by decide +kernel
theorem dX10_spanOf_24 : decode cX10_spanOf 24 = .ok (.iload 4, 2) := by decide +kernel
theorem dX10_spanOf_26 : decode cX10_spanOf 26 = .ok (.iadd, 1) := by decide +kernel
theorem dX10_spanOf_27 : decode cX10_spanOf 27 = .ok (.istore 5, 2) := by decide +kernel
theorem dX10_spanOf_29 : decode cX10_spanOf 29 = .ok (.aload_n 0, 1) := by decide +kernel
theorem dX10_spanOf_30 : decode cX10_spanOf 30 = .ok (.getfield 35, 3) := by decide +kernel
theorem dX10_spanOf_33 : decode cX10_spanOf 33 = .ok (.iload 5, 2) := by decide +kernel
theorem dX10_spanOf_35 : decode cX10_spanOf 35 = .ok (.baload, 1) := by decide +kernel
theorem dX10_spanOf_36 : decode cX10_spanOf 36 = .ok (.ifCond .eq 55, 3) := by decide +kernel
theorem dX10_spanOf_39 : decode cX10_spanOf 39 = .ok (.iload_n 2, 1) := by decide +kernel
theorem dX10_spanOf_40 : decode cX10_spanOf 40 = .ok (.ifCond .eq 28, 3) := by decide +kernel
theorem dX10_spanOf_43 : decode cX10_spanOf 43 = .ok (.aload_n 0, 1) := by decide +kernel
theorem dX10_spanOf_44 : decode cX10_spanOf 44 = .ok (.getfield 41, 3) := by decide +kernel
theorem dX10_spanOf_47 : decode cX10_spanOf 47 = .ok (.iload 5, 2) := by decide +kernel
theorem dX10_spanOf_49 : decode cX10_spanOf 49 = .ok (.iaload, 1) := by decide +kernel
theorem dX10_spanOf_50 : decode cX10_spanOf 50 = .ok (.iload_n 3, 1) := by decide +kernel
theorem dX10_spanOf_51 : decode cX10_spanOf 51 = .ok (.if_icmp .ge 13, 3) := by decide +kernel
theorem dX10_spanOf_54 : decode cX10_spanOf 54 = .ok (.aload_n 0, 1) := by decide +kernel
theorem dX10_spanOf_55 : decode cX10_spanOf 55 = .ok (.getfield 41, 3) := by decide +kernel
theorem dX10_spanOf_58 : decode cX10_spanOf 58 = .ok (.iload 5, 2) := by decide +kernel
theorem dX10_spanOf_60 : decode cX10_spanOf 60 = .ok (.iaload, 1) := by decide +kernel
theorem dX10_spanOf_61 : decode cX10_spanOf 61 = .ok (.goto 29, 3) := by decide +kernel
theorem dX10_spanOf_64 : decode cX10_spanOf 64 = .ok (.iload_n 3, 1) := by decide +kernel
theorem dX10_spanOf_65 : decode cX10_spanOf 65 = .ok (.goto 25, 3) := by decide +kernel
theorem dX10_spanOf_68 : decode cX10_spanOf 68 = .ok (.aload_n 0, 1) := by decide +kernel
theorem dX10_spanOf_69 : decode cX10_spanOf 69 = .ok (.getfield 38, 3) := by decide +kernel
theorem dX10_spanOf_72 : decode cX10_spanOf 72 = .ok (.iload 5, 2) := by decide +kernel
theorem dX10_spanOf_74 : decode cX10_spanOf 74 = .ok (.iaload, 1) := by decide +kernel
theorem dX10_spanOf_75 : decode cX10_spanOf 75 = .ok (.iload_n 3, 1) := by decide +kernel
theorem dX10_spanOf_76 : decode cX10_spanOf 76 = .ok (.if_icmp .le 13, 3) := by decide +kernel
theorem dX10_spanOf_79 : decode cX10_spanOf 79 = .ok (.aload_n 0, 1) := by decide +kernel
theorem dX10_spanOf_80 : decode cX10_spanOf 80 = .ok (.getfield 38, 3) := by decide +kernel
theorem dX10_spanOf_83 : decode cX10_spanOf 83 = .ok (.iload 5, 2) := by decide +kernel
theorem dX10_spanOf_85 : decode cX10_spanOf 85 = .ok (.iaload, 1) := by decide +kernel
theorem dX10_spanOf_86 : decode cX10_spanOf 86 = .ok (.goto 4, 3) := by decide +kernel
theorem dX10_spanOf_89 : decode cX10_spanOf 89 = .ok (.iload_n 3, 1) := by decide +kernel
theorem dX10_spanOf_90 : decode cX10_spanOf 90 = .ok (.istore_n 3, 1) := by decide +kernel
theorem dX10_spanOf_91 : decode cX10_spanOf 91 = .ok (.iinc 4 1, 3) := by decide +kernel
theorem dX10_spanOf_94 : decode cX10_spanOf 94 = .ok (.goto (-79), 3) := by decide +kernel
theorem dX10_spanOf_97 : decode cX10_spanOf 97 = .ok (.iload_n 3, 1) := by decide +kernel
theorem dX10_spanOf_98 : decode cX10_spanOf 98 = .ok (.ireturn, 1) := by decide +kernel
theorem dX10_isDisputed_0 : decode cX10_isDisputed 0 = .ok (.aload_n 0, 1) := by decide +kernel
theorem dX10_isDisputed_1 : decode cX10_isDisputed 1 = .ok (.iload_n 1, 1) := by decide +kernel
theorem dX10_isDisputed_2 : decode cX10_isDisputed 2 = .ok (.invokevirtual 186, 3) := by decide +kernel
theorem dX10_isDisputed_5 : decode cX10_isDisputed 5 = .ok (.ifCond .eq 22, 3) := by decide +kernel
theorem dX10_isDisputed_8 : decode cX10_isDisputed 8 = .ok (.aload_n 0, 1) := by decide +kernel
theorem dX10_isDisputed_9 : decode cX10_isDisputed 9 = .ok (.iload_n 1, 1) := by decide +kernel
theorem dX10_isDisputed_10 : decode cX10_isDisputed 10 = .ok (.iconst 0, 1) := by decide +kernel
theorem dX10_isDisputed_11 : decode cX10_isDisputed 11 = .ok (.invokevirtual 325, 3) := by decide +kernel
theorem dX10_isDisputed_14 : decode cX10_isDisputed 14 = .ok (.aload_n 0, 1) := by decide +kernel
theorem dX10_isDisputed_15 : decode cX10_isDisputed 15 = .ok (.iload_n 1, 1) := by decide +kernel
theorem dX10_isDisputed_16 : decode cX10_isDisputed 16 = .ok (.iconst 1, 1) := by decide +kernel
theorem dX10_isDisputed_17 : decode cX10_isDisputed 17 = .ok (.invokevirtual 325, 3) := by decide +kernel
theorem dX10_isDisputed_20 : decode cX10_isDisputed 20 = .ok (.if_icmp .le 7, 3) := by decide +kernel
theorem dX10_isDisputed_23 : decode cX10_isDisputed 23 = .ok (.iconst 1, 1) := by decide +kernel
theorem dX10_isDisputed_24 : decode cX10_isDisputed 24 = .ok (.goto 4, 3) := by decide +kernel
theorem dX10_isDisputed_27 : decode cX10_isDisputed 27 = .ok (.iconst 0, 1) := by decide +kernel
theorem dX10_isDisputed_28 : decode cX10_isDisputed 28 = .ok (.ireturn, 1) := by decide +kernel
theorem dX10_measure_0 : decode cX10_measure 0 = .ok (.aload_n 0, 1) := by decide +kernel
theorem dX10_measure_1 : decode cX10_measure 1 = .ok (.iload_n 1, 1) := by decide +kernel
theorem dX10_measure_2 : decode cX10_measure 2 = .ok (.invokevirtual 139, 3) := by decide +kernel
theorem dX10_measure_5 : decode cX10_measure 5 = .ok (.ifCond .eq 7, 3) := by decide +kernel
theorem dX10_measure_8 : decode cX10_measure 8 = .ok (.sipush (-1001), 3) := by decide +kernel
theorem dX10_measure_11 : decode cX10_measure 11 = .ok (.ireturn, 1) := by decide +kernel
theorem dX10_measure_12 : decode cX10_measure 12 = .ok (.iload_n 2, 1) := by decide +kernel
theorem dX10_measure_13 : decode cX10_measure 13 = .ok (.i2l, 1) := by decide +kernel
theorem dX10_measure_14 : decode cX10_measure 14 = .ok (.lconst 0, 1) := by decide +kernel
theorem dX10_measure_15 : decode cX10_measure 15 = .ok (.ldc2_w 129, 3) := by decide +kernel
theorem dX10_measure_18 : decode cX10_measure 18 = .ok (.invokestatic 117, 3) := by decide +kernel
theorem dX10_measure_21 : decode cX10_measure 21 = .ok (.ifCond .eq 29, 3) := by decide +kernel
theorem dX10_measure_24 : decode cX10_measure 24 = .ok (.iload_n 3, 1) := by decide +kernel
theorem dX10_measure_25 : decode cX10_measure 25 = .ok (.i2l, 1) := by decide +kernel
theorem dX10_measure_26 : decode cX10_measure 26 = .ok (.lconst 0, 1) := by decide +kernel
theorem dX10_measure_27 : decode cX10_measure 27 = .ok (.ldc2_w 173, 3) := by decide +kernel
theorem dX10_measure_30 : decode cX10_measure 30 = .ok (.invokestatic 117, 3) := by decide +kernel
theorem dX10_measure_33 : decode cX10_measure 33 = .ok (.ifCond .eq 17, 3) := by decide +kernel
theorem dX10_measure_36 : decode cX10_measure 36 = .ok (.iload 4, 2) := by decide +kernel
theorem dX10_measure_38 : decode cX10_measure 38 = .ok (.i2l, 1) := by decide +kernel
theorem dX10_measure_39 : decode cX10_measure 39 = .ok (.iload_n 3, 1) := by decide +kernel
theorem dX10_measure_40 : decode cX10_measure 40 = .ok (.i2l, 1) := by decide +kernel
theorem dX10_measure_41 : decode cX10_measure 41 = .ok (.ldc2_w 173, 3) := by decide +kernel
theorem dX10_measure_44 : decode cX10_measure 44 = .ok (.invokestatic 117, 3) := by decide +kernel
theorem dX10_measure_47 : decode cX10_measure 47 = .ok (.ifCond .ne 7, 3) := by decide +kernel
theorem dX10_measure_50 : decode cX10_measure 50 = .ok (.sipush (-1002), 3) := by decide +kernel
theorem dX10_measure_53 : decode cX10_measure 53 = .ok (.ireturn, 1) := by decide +kernel
theorem dX10_measure_54 : decode cX10_measure 54 = .ok (.aload_n 0, 1) := by decide +kernel
theorem dX10_measure_55 : decode cX10_measure 55 = .ok (.iload_n 1, 1) := by decide +kernel
theorem dX10_measure_56 : decode cX10_measure 56 = .ok (.invokevirtual 159, 3) := by decide +kernel
theorem dX10_measure_59 : decode cX10_measure 59 = .ok (.ifCond .ne 12, 3) := by decide +kernel
theorem dX10_measure_62 : decode cX10_measure 62 = .ok (.aload_n 0, 1) := by decide +kernel
theorem dX10_measure_63 : decode cX10_measure 63 = .ok (.getfield 32, 3) := by decide +kernel
theorem dX10_measure_66 : decode cX10_measure 66 = .ok (.iload_n 1, 1) := by decide +kernel
theorem dX10_measure_67 : decode cX10_measure 67 = .ok (.baload, 1) := by decide +kernel
theorem dX10_measure_68 : decode cX10_measure 68 = .ok (.ifCond .eq 7, 3) := by decide +kernel
theorem dX10_measure_71 : decode cX10_measure 71 = .ok (.sipush (-1003), 3) := by decide +kernel
theorem dX10_measure_74 : decode cX10_measure 74 = .ok (.ireturn, 1) := by decide +kernel
theorem dX10_measure_75 : decode cX10_measure 75 = .ok (.aload_n 0, 1) := by decide +kernel
theorem dX10_measure_76 : decode cX10_measure 76 = .ok (.getfield 35, 3) := by decide +kernel
theorem dX10_measure_79 : decode cX10_measure 79 = .ok (.iconst 3, 1) := by decide +kernel
theorem dX10_measure_80 : decode cX10_measure 80 = .ok (.iload_n 1, 1) := by decide +kernel
theorem dX10_measure_81 : decode cX10_measure 81 = .ok (.imul, 1) := by decide +kernel
theorem dX10_measure_82 : decode cX10_measure 82 = .ok (.iload_n 2, 1) := by decide +kernel
theorem dX10_measure_83 : decode cX10_measure 83 = .ok (.iadd, 1) := by decide +kernel
theorem dX10_measure_84 : decode cX10_measure 84 = .ok (.iconst 1, 1) := by decide +kernel
theorem dX10_measure_85 : decode cX10_measure 85 = .ok (.bastore, 1) := by decide +kernel
theorem dX10_measure_86 : decode cX10_measure 86 = .ok (.aload_n 0, 1) := by decide +kernel
theorem dX10_measure_87 : decode cX10_measure 87 = .ok (.getfield 38, 3) := by decide +kernel
theorem dX10_measure_90 : decode cX10_measure 90 = .ok (.iconst 3, 1) := by decide +kernel
theorem dX10_measure_91 : decode cX10_measure 91 = .ok (.iload_n 1, 1) := by decide +kernel
theorem dX10_measure_92 : decode cX10_measure 92 = .ok (.imul, 1) := by decide +kernel
theorem dX10_measure_93 : decode cX10_measure 93 = .ok (.iload_n 2, 1) := by decide +kernel
theorem dX10_measure_94 : decode cX10_measure 94 = .ok (.iadd, 1) := by decide +kernel
theorem dX10_measure_95 : decode cX10_measure 95 = .ok (.iload_n 3, 1) := by decide +kernel
theorem dX10_measure_96 : decode cX10_measure 96 = .ok (.iastore, 1) := by decide +kernel
theorem dX10_measure_97 : decode cX10_measure 97 = .ok (.aload_n 0, 1) := by decide +kernel
theorem dX10_measure_98 : decode cX10_measure 98 = .ok (.getfield 41, 3) := by decide +kernel
theorem dX10_measure_101 : decode cX10_measure 101 = .ok (.iconst 3, 1) := by decide +kernel
theorem dX10_measure_102 : decode cX10_measure 102 = .ok (.iload_n 1, 1) := by decide +kernel
theorem dX10_measure_103 : decode cX10_measure 103 = .ok (.imul, 1) := by decide +kernel
theorem dX10_measure_104 : decode cX10_measure 104 = .ok (.iload_n 2, 1) := by decide +kernel
theorem dX10_measure_105 : decode cX10_measure 105 = .ok (.iadd, 1) := by decide +kernel
theorem dX10_measure_106 : decode cX10_measure 106 = .ok (.iload 4, 2) := by decide +kernel
theorem dX10_measure_108 : decode cX10_measure 108 = .ok (.iastore, 1) := by decide +kernel
theorem dX10_measure_109 : decode cX10_measure 109 = .ok (.aload_n 0, 1) := by decide +kernel
theorem dX10_measure_110 : decode cX10_measure 110 = .ok (.getfield 35, 3) := by decide +kernel
theorem dX10_measure_113 : decode cX10_measure 113 = .ok (.iconst 3, 1) := by decide +kernel
theorem dX10_measure_114 : decode cX10_measure 114 = .ok (.iload_n 1, 1) := by decide +kernel
theorem dX10_measure_115 : decode cX10_measure 115 = .ok (.imul, 1) := by decide +kernel
theorem dX10_measure_116 : decode cX10_measure 116 = .ok (.baload, 1) := by decide +kernel
theorem dX10_measure_117 : decode cX10_measure 117 = .ok (.invokestatic 155, 3) := by decide +kernel
theorem dX10_measure_120 : decode cX10_measure 120 = .ok (.aload_n 0, 1) := by decide +kernel
theorem dX10_measure_121 : decode cX10_measure 121 = .ok (.getfield 35, 3) := by decide +kernel
theorem dX10_measure_124 : decode cX10_measure 124 = .ok (.iconst 3, 1) := by decide +kernel
theorem dX10_measure_125 : decode cX10_measure 125 = .ok (.iload_n 1, 1) := by decide +kernel
theorem dX10_measure_126 : decode cX10_measure 126 = .ok (.imul, 1) := by decide +kernel
theorem dX10_measure_127 : decode cX10_measure 127 = .ok (.iconst 1, 1) := by decide +kernel
theorem dX10_measure_128 : decode cX10_measure 128 = .ok (.iadd, 1) := by decide +kernel
theorem dX10_measure_129 : decode cX10_measure 129 = .ok (.baload, 1) := by decide +kernel
theorem dX10_measure_130 : decode cX10_measure 130 = .ok (.invokestatic 155, 3) := by decide +kernel
theorem dX10_measure_133 : decode cX10_measure 133 = .ok (.iadd, 1) := by decide +kernel
theorem dX10_measure_134 : decode cX10_measure 134 = .ok (.aload_n 0, 1) := by decide +kernel
theorem dX10_measure_135 : decode cX10_measure 135 = .ok (.getfield 35, 3) := by decide +kernel
theorem dX10_measure_138 : decode cX10_measure 138 = .ok (.iconst 3, 1) := by decide +kernel
theorem dX10_measure_139 : decode cX10_measure 139 = .ok (.iload_n 1, 1) := by decide +kernel
theorem dX10_measure_140 : decode cX10_measure 140 = .ok (.imul, 1) := by decide +kernel
theorem dX10_measure_141 : decode cX10_measure 141 = .ok (.iconst 2, 1) := by decide +kernel
theorem dX10_measure_142 : decode cX10_measure 142 = .ok (.iadd, 1) := by decide +kernel
theorem dX10_measure_143 : decode cX10_measure 143 = .ok (.baload, 1) := by decide +kernel
theorem dX10_measure_144 : decode cX10_measure 144 = .ok (.invokestatic 155, 3) := by decide +kernel
theorem dX10_measure_147 : decode cX10_measure 147 = .ok (.iadd, 1) := by decide +kernel
theorem dX10_measure_148 : decode cX10_measure 148 = .ok (.ireturn, 1) := by decide +kernel
theorem dX10_known_0 : decode cX10_known 0 = .ok (.aload_n 0, 1) := by decide +kernel
theorem dX10_known_1 : decode cX10_known 1 = .ok (.iload_n 1, 1) := by decide +kernel
theorem dX10_known_2 : decode cX10_known 2 = .ok (.invokevirtual 139, 3) := by decide +kernel
theorem dX10_known_5 : decode cX10_known 5 = .ok (.ifCond .eq 7, 3) := by decide +kernel
theorem dX10_known_8 : decode cX10_known 8 = .ok (.sipush (-1001), 3) := by decide +kernel
theorem dX10_known_11 : decode cX10_known 11 = .ok (.ireturn, 1) := by decide +kernel
theorem dX10_known_12 : decode cX10_known 12 = .ok (.iload_n 2, 1) := by decide +kernel
theorem dX10_known_13 : decode cX10_known 13 = .ok (.i2l, 1) := by decide +kernel
theorem dX10_known_14 : decode cX10_known 14 = .ok (.lconst 0, 1) := by decide +kernel
theorem dX10_known_15 : decode cX10_known 15 = .ok (.lconst 1, 1) := by decide +kernel
theorem dX10_known_16 : decode cX10_known 16 = .ok (.invokestatic 117, 3) := by decide +kernel
theorem dX10_known_19 : decode cX10_known 19 = .ok (.ifCond .ne 7, 3) := by decide +kernel
theorem dX10_known_22 : decode cX10_known 22 = .ok (.sipush (-1002), 3) := by decide +kernel
theorem dX10_known_25 : decode cX10_known 25 = .ok (.ireturn, 1) := by decide +kernel
theorem dX10_known_26 : decode cX10_known 26 = .ok (.aload_n 0, 1) := by decide +kernel
theorem dX10_known_27 : decode cX10_known 27 = .ok (.iload_n 1, 1) := by decide +kernel
theorem dX10_known_28 : decode cX10_known 28 = .ok (.invokevirtual 186, 3) := by decide +kernel
theorem dX10_known_31 : decode cX10_known 31 = .ok (.ifCond .eq 11, 3) := by decide +kernel
theorem dX10_known_34 : decode cX10_known 34 = .ok (.aload_n 0, 1) := by decide +kernel
theorem dX10_known_35 : decode cX10_known 35 = .ok (.iload_n 1, 1) := by decide +kernel
theorem dX10_known_36 : decode cX10_known 36 = .ok (.invokevirtual 189, 3) := by decide +kernel
theorem dX10_known_39 : decode cX10_known 39 = .ok (.ifCond .eq 7, 3) := by decide +kernel
theorem dX10_known_42 : decode cX10_known 42 = .ok (.iconst (-1), 1) := by decide +kernel
theorem dX10_known_43 : decode cX10_known 43 = .ok (.goto 18, 3) := by decide +kernel
theorem dX10_known_46 : decode cX10_known 46 = .ok (.aload_n 0, 1) := by decide +kernel
theorem dX10_known_47 : decode cX10_known 47 = .ok (.iload_n 1, 1) := by decide +kernel
theorem dX10_known_48 : decode cX10_known 48 = .ok (.iload_n 2, 1) := by decide +kernel
theorem dX10_known_49 : decode cX10_known 49 = .ok (.iconst 1, 1) := by decide +kernel
theorem dX10_known_50 : decode cX10_known 50 = .ok (.if_icmp .ne 7, 3) := by decide +kernel
theorem dX10_known_53 : decode cX10_known 53 = .ok (.iconst 1, 1) := by decide +kernel
theorem dX10_known_54 : decode cX10_known 54 = .ok (.goto 4, 3) := by decide +kernel
theorem dX10_known_57 : decode cX10_known 57 = .ok (.iconst 0, 1) := by decide +kernel
theorem dX10_known_58 : decode cX10_known 58 = .ok (.invokevirtual 325, 3) := by decide +kernel
theorem dX10_known_61 : decode cX10_known 61 = .ok (.ireturn, 1) := by decide +kernel
theorem dX10_scoreFor_0 : decode cX10_scoreFor 0 = .ok (.iconst 0, 1) := by decide +kernel
theorem dX10_scoreFor_1 : decode cX10_scoreFor 1 = .ok (.istore_n 3, 1) := by decide +kernel
theorem dX10_scoreFor_2 : decode cX10_scoreFor 2 = .ok (.iload_n 3, 1) := by decide +kernel
theorem dX10_scoreFor_3 : decode cX10_scoreFor 3 = .ok (.aload_n 0, 1) := by decide +kernel
theorem dX10_scoreFor_4 : decode cX10_scoreFor 4 = .ok (.getfield 114, 3) := by decide +kernel
theorem dX10_scoreFor_7 : decode cX10_scoreFor 7 = .ok (.if_icmp .ge 56, 3) := by decide +kernel
theorem dX10_scoreFor_10 : decode cX10_scoreFor 10 = .ok (.aload_n 0, 1) := by decide +kernel
theorem dX10_scoreFor_11 : decode cX10_scoreFor 11 = .ok (.iload_n 3, 1) := by decide +kernel
theorem dX10_scoreFor_12 : decode cX10_scoreFor 12 = .ok (.invokevirtual 319, 3) := by decide +kernel
theorem dX10_scoreFor_15 : decode cX10_scoreFor 15 = .ok (.aload_n 0, 1) := by decide +kernel
theorem dX10_scoreFor_16 : decode cX10_scoreFor 16 = .ok (.iload_n 3, 1) := by decide +kernel
theorem dX10_scoreFor_17 : decode cX10_scoreFor 17 = .ok (.invokevirtual 186, 3) := by decide +kernel
theorem dX10_scoreFor_20 : decode cX10_scoreFor 20 = .ok (.ifCond .eq 37, 3) := by decide +kernel
theorem dX10_scoreFor_23 : decode cX10_scoreFor 23 = .ok (.aload_n 0, 1) := by decide +kernel
theorem dX10_scoreFor_24 : decode cX10_scoreFor 24 = .ok (.getfield 60, 3) := by decide +kernel
theorem dX10_scoreFor_27 : decode cX10_scoreFor 27 = .ok (.iload_n 3, 1) := by decide +kernel
theorem dX10_scoreFor_28 : decode cX10_scoreFor 28 = .ok (.lconst 0, 1) := by decide +kernel
theorem dX10_scoreFor_29 : decode cX10_scoreFor 29 = .ok (.lastore, 1) := by decide +kernel
theorem dX10_scoreFor_30 : decode cX10_scoreFor 30 = .ok (.aload_n 0, 1) := by decide +kernel
theorem dX10_scoreFor_31 : decode cX10_scoreFor 31 = .ok (.getfield 64, 3) := by decide +kernel
theorem dX10_scoreFor_34 : decode cX10_scoreFor 34 = .ok (.iload_n 3, 1) := by decide +kernel
theorem dX10_scoreFor_35 : decode cX10_scoreFor 35 = .ok (.aload_n 0, 1) := by decide +kernel
theorem dX10_scoreFor_36 : decode cX10_scoreFor 36 = .ok (.iload_n 3, 1) := by decide +kernel
theorem dX10_scoreFor_37 : decode cX10_scoreFor 37 = .ok (.aload_n 0, 1) := by decide +kernel
theorem dX10_scoreFor_38 : decode cX10_scoreFor 38 = .ok (.getfield 7, 3) := by decide +kernel
theorem dX10_scoreFor_41 : decode cX10_scoreFor 41 = .ok (.iload_n 3, 1) := by decide +kernel
theorem dX10_scoreFor_42 : decode cX10_scoreFor 42 = .ok (.iaload, 1) := by decide +kernel
theorem dX10_scoreFor_43 : decode cX10_scoreFor 43 = .ok (.iload_n 2, 1) := by decide +kernel
theorem dX10_scoreFor_44 : decode cX10_scoreFor 44 = .ok (.if_icmp .eq 7, 3) := by decide +kernel
theorem dX10_scoreFor_47 : decode cX10_scoreFor 47 = .ok (.iconst 1, 1) := by decide +kernel
theorem dX10_scoreFor_48 : decode cX10_scoreFor 48 = .ok (.goto 4, 3) := by decide +kernel
theorem dX10_scoreFor_51 : decode cX10_scoreFor 51 = .ok (.iconst 0, 1) := by decide +kernel
theorem dX10_scoreFor_52 : decode cX10_scoreFor 52 = .ok (.invokevirtual 325, 3) := by decide +kernel
theorem dX10_scoreFor_55 : decode cX10_scoreFor 55 = .ok (.i2l, 1) := by decide +kernel
theorem dX10_scoreFor_56 : decode cX10_scoreFor 56 = .ok (.lastore, 1) := by decide +kernel
theorem dX10_scoreFor_57 : decode cX10_scoreFor 57 = .ok (.iinc 3 1, 3) := by decide +kernel
theorem dX10_scoreFor_60 : decode cX10_scoreFor 60 = .ok (.goto (-58), 3) := by decide +kernel
theorem dX10_scoreFor_63 : decode cX10_scoreFor 63 = .ok (.aload_n 0, 1) := by decide +kernel
theorem dX10_scoreFor_64 : decode cX10_scoreFor 64 = .ok (.iload_n 1, 1) := by decide +kernel
theorem dX10_scoreFor_65 : decode cX10_scoreFor 65 = .ok (.invokevirtual 322, 3) := by decide +kernel
theorem dX10_scoreFor_68 : decode cX10_scoreFor 68 = .ok (.aload_n 0, 1) := by decide +kernel
theorem dX10_scoreFor_69 : decode cX10_scoreFor 69 = .ok (.getfield 57, 3) := by decide +kernel
theorem dX10_scoreFor_72 : decode cX10_scoreFor 72 = .ok (.iconst 0, 1) := by decide +kernel
theorem dX10_scoreFor_73 : decode cX10_scoreFor 73 = .ok (.iaload, 1) := by decide +kernel
theorem dX10_scoreFor_74 : decode cX10_scoreFor 74 = .ok (.aload_n 0, 1) := by decide +kernel
theorem dX10_scoreFor_75 : decode cX10_scoreFor 75 = .ok (.getfield 57, 3) := by decide +kernel
theorem dX10_scoreFor_78 : decode cX10_scoreFor 78 = .ok (.iconst 1, 1) := by decide +kernel
theorem dX10_scoreFor_79 : decode cX10_scoreFor 79 = .ok (.iaload, 1) := by decide +kernel
theorem dX10_scoreFor_80 : decode cX10_scoreFor 80 = .ok (.isub, 1) := by decide +kernel
theorem dX10_scoreFor_81 : decode cX10_scoreFor 81 = .ok (.ireturn, 1) := by decide +kernel
theorem dX10_sure_0 : decode cX10_sure 0 = .ok (.iload_n 1, 1) := by decide +kernel
theorem dX10_sure_1 : decode cX10_sure 1 = .ok (.invokestatic 277, 3) := by decide +kernel
theorem dX10_sure_4 : decode cX10_sure 4 = .ok (.ifCond .ne 7, 3) := by decide +kernel
theorem dX10_sure_7 : decode cX10_sure 7 = .ok (.sipush (-1001), 3) := by decide +kernel
theorem dX10_sure_10 : decode cX10_sure 10 = .ok (.ireturn, 1) := by decide +kernel
theorem dX10_sure_11 : decode cX10_sure 11 = .ok (.iload_n 2, 1) := by decide +kernel
theorem dX10_sure_12 : decode cX10_sure 12 = .ok (.i2l, 1) := by decide +kernel
theorem dX10_sure_13 : decode cX10_sure 13 = .ok (.lconst 0, 1) := by decide +kernel
theorem dX10_sure_14 : decode cX10_sure 14 = .ok (.ldc2_w 129, 3) := by decide +kernel
theorem dX10_sure_17 : decode cX10_sure 17 = .ok (.invokestatic 117, 3) := by decide +kernel
theorem dX10_sure_20 : decode cX10_sure 20 = .ok (.ifCond .ne 7, 3) := by decide +kernel
theorem dX10_sure_23 : decode cX10_sure 23 = .ok (.sipush (-1002), 3) := by decide +kernel
theorem dX10_sure_26 : decode cX10_sure 26 = .ok (.ireturn, 1) := by decide +kernel
theorem dX10_sure_27 : decode cX10_sure 27 = .ok (.iconst 0, 1) := by decide +kernel
theorem dX10_sure_28 : decode cX10_sure 28 = .ok (.istore_n 3, 1) := by decide +kernel
theorem dX10_sure_29 : decode cX10_sure 29 = .ok (.iload_n 3, 1) := by decide +kernel
theorem dX10_sure_30 : decode cX10_sure 30 = .ok (.aload_n 0, 1) := by decide +kernel
theorem dX10_sure_31 : decode cX10_sure 31 = .ok (.getfield 114, 3) := by decide +kernel
theorem dX10_sure_34 : decode cX10_sure 34 = .ok (.if_icmp .ge 38, 3) := by decide +kernel
theorem dX10_sure_37 : decode cX10_sure 37 = .ok (.aload_n 0, 1) := by decide +kernel
theorem dX10_sure_38 : decode cX10_sure 38 = .ok (.iload_n 3, 1) := by decide +kernel
theorem dX10_sure_39 : decode cX10_sure 39 = .ok (.invokevirtual 189, 3) := by decide +kernel
theorem dX10_sure_42 : decode cX10_sure 42 = .ok (.ifCond .eq 24, 3) := by decide +kernel
theorem dX10_sure_45 : decode cX10_sure 45 = .ok (.aload_n 0, 1) := by decide +kernel
theorem dX10_sure_46 : decode cX10_sure 46 = .ok (.iload_n 1, 1) := by decide +kernel
theorem dX10_sure_47 : decode cX10_sure 47 = .ok (.iload_n 3, 1) := by decide +kernel
theorem dX10_sure_48 : decode cX10_sure 48 = .ok (.invokevirtual 300, 3) := by decide +kernel
theorem dX10_sure_51 : decode cX10_sure 51 = .ok (.ifCond .eq 15, 3) := by decide +kernel
theorem dX10_sure_54 : decode cX10_sure 54 = .ok (.aload_n 0, 1) := by decide +kernel
theorem dX10_sure_55 : decode cX10_sure 55 = .ok (.iload_n 3, 1) := by decide +kernel
theorem dX10_sure_56 : decode cX10_sure 56 = .ok (.invokevirtual 159, 3) := by decide +kernel
theorem dX10_sure_59 : decode cX10_sure 59 = .ok (.ifCond .ne 7, 3) := by decide +kernel
theorem dX10_sure_62 : decode cX10_sure 62 = .ok (.sipush (-1003), 3) := by decide +kernel
theorem dX10_sure_65 : decode cX10_sure 65 = .ok (.ireturn, 1) := by decide +kernel
theorem dX10_sure_66 : decode cX10_sure 66 = .ok (.iinc 3 1, 3) := by decide +kernel
theorem dX10_sure_69 : decode cX10_sure 69 = .ok (.goto (-40), 3) := by decide +kernel
theorem dX10_sure_72 : decode cX10_sure 72 = .ok (.aload_n 0, 1) := by decide +kernel
theorem dX10_sure_73 : decode cX10_sure 73 = .ok (.iload_n 1, 1) := by decide +kernel
theorem dX10_sure_74 : decode cX10_sure 74 = .ok (.iconst 1, 1) := by decide +kernel
theorem dX10_sure_75 : decode cX10_sure 75 = .ok (.invokevirtual 329, 3) := by decide +kernel
theorem dX10_sure_78 : decode cX10_sure 78 = .ok (.istore_n 3, 1) := by decide +kernel
theorem dX10_sure_79 : decode cX10_sure 79 = .ok (.aload_n 0, 1) := by decide +kernel
theorem dX10_sure_80 : decode cX10_sure 80 = .ok (.iload_n 1, 1) := by decide +kernel
theorem dX10_sure_81 : decode cX10_sure 81 = .ok (.iconst 0, 1) := by decide +kernel
theorem dX10_sure_82 : decode cX10_sure 82 = .ok (.invokevirtual 329, 3) := by decide +kernel
theorem dX10_sure_85 : decode cX10_sure 85 = .ok (.istore 4, 2) := by decide +kernel
theorem dX10_sure_87 : decode cX10_sure 87 = .ok (.iload_n 2, 1) := by decide +kernel
theorem dX10_sure_88 : decode cX10_sure 88 = .ok (.ifCond .ne 7, 3) := by decide +kernel
theorem dX10_sure_91 : decode cX10_sure 91 = .ok (.iload_n 3, 1) := by decide +kernel
theorem dX10_sure_92 : decode cX10_sure 92 = .ok (.goto 27, 3) := by decide +kernel
theorem dX10_sure_95 : decode cX10_sure 95 = .ok (.iload_n 2, 1) := by decide +kernel
theorem dX10_sure_96 : decode cX10_sure 96 = .ok (.iconst 1, 1) := by decide +kernel
theorem dX10_sure_97 : decode cX10_sure 97 = .ok (.if_icmp .ne 8, 3) := by decide +kernel
theorem dX10_sure_100 : decode cX10_sure 100 = .ok (.iload 4, 2) := by decide +kernel
theorem dX10_sure_102 : decode cX10_sure 102 = .ok (.goto 17, 3) := by decide +kernel
theorem dX10_sure_105 : decode cX10_sure 105 = .ok (.iload_n 3, 1) := by decide +kernel
theorem dX10_sure_106 : decode cX10_sure 106 = .ok (.iload 4, 2) := by decide +kernel
theorem dX10_sure_108 : decode cX10_sure 108 = .ok (.if_icmp .ne 7, 3) := by decide +kernel
theorem dX10_sure_111 : decode cX10_sure 111 = .ok (.iconst 1, 1) := by decide +kernel
theorem dX10_sure_112 : decode cX10_sure 112 = .ok (.goto 4, 3) := by decide +kernel
theorem dX10_sure_115 : decode cX10_sure 115 = .ok (.iconst 0, 1) := by decide +kernel
theorem dX10_sure_116 : decode cX10_sure 116 = .ok (.invokestatic 155, 3) := by decide +kernel
theorem dX10_sure_119 : decode cX10_sure 119 = .ok (.ireturn, 1) := by decide +kernel
theorem dX10_layAct_0 : decode cX10_layAct 0 = .ok (.bipush 15, 2) := by decide +kernel
theorem dX10_layAct_2 : decode cX10_layAct 2 = .ok (.iload_n 1, 1) := by decide +kernel
theorem dX10_layAct_3 : decode cX10_layAct 3 = .ok (.imul, 1) := by decide +kernel
theorem dX10_layAct_4 : decode cX10_layAct 4 = .ok (.iconst 5, 1) := by decide +kernel
theorem dX10_layAct_5 : decode cX10_layAct 5 = .ok (.iload_n 2, 1) := by decide +kernel
theorem dX10_layAct_6 : decode cX10_layAct 6 = .ok (.imul, 1) := by decide +kernel
theorem dX10_layAct_7 : decode cX10_layAct 7 = .ok (.iadd, 1) := by decide +kernel
theorem dX10_layAct_8 : decode cX10_layAct 8 = .ok (.istore 8, 2) := by decide +kernel
theorem dX10_layAct_10 : decode cX10_layAct 10 = .ok (.aload_n 0, 1) := by decide +kernel
theorem dX10_layAct_11 : decode cX10_layAct 11 = .ok (.getfield 67, 3) := by decide +kernel
theorem dX10_layAct_14 : decode cX10_layAct 14 = .ok (.iload 8, 2) := by decide +kernel
theorem dX10_layAct_16 : decode cX10_layAct 16 = .ok (.iload_n 3, 1) := by decide +kernel
theorem dX10_layAct_17 : decode cX10_layAct 17 = .ok (.iastore, 1) := by decide +kernel
theorem dX10_layAct_18 : decode cX10_layAct 18 = .ok (.aload_n 0, 1) := by decide +kernel
theorem dX10_layAct_19 : decode cX10_layAct 19 = .ok (.getfield 67, 3) := by decide +kernel
theorem dX10_layAct_22 : decode cX10_layAct 22 = .ok (.iload 8, 2) := by decide +kernel
theorem dX10_layAct_24 : decode cX10_layAct 24 = .ok (.iconst 1, 1) := by decide +kernel
theorem dX10_layAct_25 : decode cX10_layAct 25 = .ok (.iadd, 1) := by decide +kernel
theorem dX10_layAct_26 : decode cX10_layAct 26 = .ok (.iload 4, 2) := by decide +kernel
theorem dX10_layAct_28 : decode cX10_layAct 28 = .ok (.iastore, 1) := by decide +kernel
theorem dX10_layAct_29 : decode cX10_layAct 29 = .ok (.aload_n 0, 1) := by decide +kernel
theorem dX10_layAct_30 : decode cX10_layAct 30 = .ok (.getfield 67, 3) := by decide +kernel
theorem dX10_layAct_33 : decode cX10_layAct 33 = .ok (.iload 8, 2) := by decide +kernel
theorem dX10_layAct_35 : decode cX10_layAct 35 = .ok (.iconst 2, 1) := by decide +kernel
theorem dX10_layAct_36 : decode cX10_layAct 36 = .ok (.iadd, 1) := by decide +kernel
theorem dX10_layAct_37 : decode cX10_layAct 37 = .ok (.iload 5, 2) := by decide +kernel
theorem dX10_layAct_39 : decode cX10_layAct 39 = .ok (.iastore, 1) := by decide +kernel
theorem dX10_layAct_40 : decode cX10_layAct 40 = .ok (.aload_n 0, 1) := by decide +kernel
theorem dX10_layAct_41 : decode cX10_layAct 41 = .ok (.getfield 67, 3) := by decide +kernel
theorem dX10_layAct_44 : decode cX10_layAct 44 = .ok (.iload 8, 2) := by decide +kernel
theorem dX10_layAct_46 : decode cX10_layAct 46 = .ok (.iconst 3, 1) := by decide +kernel
theorem dX10_layAct_47 : decode cX10_layAct 47 = .ok (.iadd, 1) := by decide +kernel
theorem dX10_layAct_48 : decode cX10_layAct 48 = .ok (.iload 6, 2) := by decide +kernel
theorem dX10_layAct_50 : decode cX10_layAct 50 = .ok (.iastore, 1) := by decide +kernel
theorem dX10_layAct_51 : decode cX10_layAct 51 = .ok (.aload_n 0, 1) := by decide +kernel
theorem dX10_layAct_52 : decode cX10_layAct 52 = .ok (.getfield 67, 3) := by decide +kernel
theorem dX10_layAct_55 : decode cX10_layAct 55 = .ok (.iload 8, 2) := by decide +kernel
theorem dX10_layAct_57 : decode cX10_layAct 57 = .ok (.iconst 4, 1) := by decide +kernel
theorem dX10_layAct_58 : decode cX10_layAct 58 = .ok (.iadd, 1) := by decide +kernel
theorem dX10_layAct_59 : decode cX10_layAct 59 = .ok (.iload 7, 2) := by decide +kernel
theorem dX10_layAct_61 : decode cX10_layAct 61 = .ok (.iastore, 1) := by decide +kernel
theorem dX10_layAct_62 : decode cX10_layAct 62 = .ok (.return_, 1) := by decide +kernel
theorem dX10_isWeight_0 : decode cX10_isWeight 0 = .ok (.iload_n 0, 1) := by decide +kernel
theorem dX10_isWeight_1 : decode cX10_isWeight 1 = .ok (.i2l, 1) := by decide +kernel
theorem dX10_isWeight_2 : decode cX10_isWeight 2 = .ok (.lconst 0, 1) := by decide +kernel
theorem dX10_isWeight_3 : decode cX10_isWeight 3 = .ok (.ldc2_w 131, 3) := by decide +kernel
theorem dX10_isWeight_6 : decode cX10_isWeight 6 = .ok (.invokestatic 117, 3) := by decide +kernel
theorem dX10_isWeight_9 : decode cX10_isWeight 9 = .ok (.ireturn, 1) := by decide +kernel
theorem dX10_act_0 : decode cX10_act 0 = .ok (.iload_n 3, 1) := by decide +kernel
theorem dX10_act_1 : decode cX10_act 1 = .ok (.invokestatic 332, 3) := by decide +kernel
theorem dX10_act_4 : decode cX10_act 4 = .ok (.ifCond .eq 39, 3) := by decide +kernel
theorem dX10_act_7 : decode cX10_act 7 = .ok (.iload 4, 2) := by decide +kernel
theorem dX10_act_9 : decode cX10_act 9 = .ok (.invokestatic 332, 3) := by decide +kernel
theorem dX10_act_12 : decode cX10_act 12 = .ok (.ifCond .eq 31, 3) := by decide +kernel
theorem dX10_act_15 : decode cX10_act 15 = .ok (.iload 5, 2) := by decide +kernel
theorem dX10_act_17 : decode cX10_act 17 = .ok (.invokestatic 332, 3) := by decide +kernel
theorem dX10_act_20 : decode cX10_act 20 = .ok (.ifCond .eq 23, 3) := by decide +kernel
theorem dX10_act_23 : decode cX10_act 23 = .ok (.iload 6, 2) := by decide +kernel
theorem dX10_act_25 : decode cX10_act 25 = .ok (.invokestatic 332, 3) := by decide +kernel
theorem dX10_act_28 : decode cX10_act 28 = .ok (.ifCond .eq 15, 3) := by decide +kernel
theorem dX10_act_31 : decode cX10_act 31 = .ok (.iload 7, 2) := by decide +kernel
theorem dX10_act_33 : decode cX10_act 33 = .ok (.invokestatic 332, 3) := by decide +kernel
theorem dX10_act_36 : decode cX10_act 36 = .ok (.ifCond .eq 7, 3) := by decide +kernel
theorem dX10_act_39 : decode cX10_act 39 = .ok (.iconst 1, 1) := by decide +kernel
theorem dX10_act_40 : decode cX10_act 40 = .ok (.goto 4, 3) := by decide +kernel
theorem dX10_act_43 : decode cX10_act 43 = .ok (.iconst 0, 1) := by decide +kernel
theorem dX10_act_44 : decode cX10_act 44 = .ok (.istore 8, 2) := by decide +kernel
theorem dX10_act_46 : decode cX10_act 46 = .ok (.iload_n 1, 1) := by decide +kernel
theorem dX10_act_47 : decode cX10_act 47 = .ok (.i2l, 1) := by decide +kernel
theorem dX10_act_48 : decode cX10_act 48 = .ok (.lconst 0, 1) := by decide +kernel
theorem dX10_act_49 : decode cX10_act 49 = .ok (.lconst 1, 1) := by decide +kernel
theorem dX10_act_50 : decode cX10_act 50 = .ok (.invokestatic 117, 3) := by decide +kernel
theorem dX10_act_53 : decode cX10_act 53 = .ok (.ifCond .eq 38, 3) := by decide +kernel
theorem dX10_act_56 : decode cX10_act 56 = .ok (.iload_n 2, 1) := by decide +kernel
theorem dX10_act_57 : decode cX10_act 57 = .ok (.i2l, 1) := by decide +kernel
theorem dX10_act_58 : decode cX10_act 58 = .ok (.lconst 0, 1) := by decide +kernel
theorem dX10_act_59 : decode cX10_act 59 = .ok (.ldc2_w 129, 3) := by decide +kernel
theorem dX10_act_62 : decode cX10_act 62 = .ok (.invokestatic 117, 3) := by decide +kernel
theorem dX10_act_65 : decode cX10_act 65 = .ok (.ifCond .eq 26, 3) := by decide +kernel
theorem dX10_act_68 : decode cX10_act 68 = .ok (.iload 8, 2) := by decide +kernel
theorem dX10_act_70 : decode cX10_act 70 = .ok (.ifCond .eq 21, 3) := by decide +kernel
theorem dX10_act_73 : decode cX10_act 73 = .ok (.iload_n 3, 1) := by decide +kernel
theorem dX10_act_74 : decode cX10_act 74 = .ok (.iload 4, 2) := by decide +kernel
theorem dX10_act_76 : decode cX10_act 76 = .ok (.iadd, 1) := by decide +kernel
theorem dX10_act_77 : decode cX10_act 77 = .ok (.iload 5, 2) := by decide +kernel
theorem dX10_act_79 : decode cX10_act 79 = .ok (.iadd, 1) := by decide +kernel
theorem dX10_act_80 : decode cX10_act 80 = .ok (.iload 6, 2) := by decide +kernel
theorem dX10_act_82 : decode cX10_act 82 = .ok (.iadd, 1) := by decide +kernel
theorem dX10_act_83 : decode cX10_act 83 = .ok (.iload 7, 2) := by decide +kernel
theorem dX10_act_85 : decode cX10_act 85 = .ok (.iadd, 1) := by decide +kernel
theorem dX10_act_86 : decode cX10_act 86 = .ok (.bipush 60, 2) := by decide +kernel
theorem dX10_act_88 : decode cX10_act 88 = .ok (.if_icmp .eq 7, 3) := by decide +kernel
theorem dX10_act_91 : decode cX10_act 91 = .ok (.sipush (-1002), 3) := by decide +kernel
theorem dX10_act_94 : decode cX10_act 94 = .ok (.ireturn, 1) := by decide +kernel
theorem dX10_act_95 : decode cX10_act 95 = .ok (.aload_n 0, 1) := by decide +kernel
theorem dX10_act_96 : decode cX10_act 96 = .ok (.iload_n 1, 1) := by decide +kernel
theorem dX10_act_97 : decode cX10_act 97 = .ok (.iload_n 2, 1) := by decide +kernel
theorem dX10_act_98 : decode cX10_act 98 = .ok (.iload_n 3, 1) := by decide +kernel
theorem dX10_act_99 : decode cX10_act 99 = .ok (.iload 4, 2) := by decide +kernel
theorem dX10_act_101 : decode cX10_act 101 = .ok (.iload 5, 2) := by decide +kernel
theorem dX10_act_103 : decode cX10_act 103 = .ok (.iload 6, 2) := by decide +kernel
theorem dX10_act_105 : decode cX10_act 105 = .ok (.iload 7, 2) := by decide +kernel
theorem dX10_act_107 : decode cX10_act 107 = .ok (.invokevirtual 107, 3) := by decide +kernel
theorem dX10_act_110 : decode cX10_act 110 = .ok (.iconst 1, 1) := by decide +kernel
theorem dX10_act_111 : decode cX10_act 111 = .ok (.ireturn, 1) := by decide +kernel
theorem dX10_worth_0 : decode cX10_worth 0 = .ok (.lconst 0, 1) := by decide +kernel
theorem dX10_worth_1 : decode cX10_worth 1 = .ok (.lstore 4, 2) := by decide +kernel
theorem dX10_worth_3 : decode cX10_worth 3 = .ok (.iconst 0, 1) := by decide +kernel
theorem dX10_worth_4 : decode cX10_worth 4 = .ok (.istore 6, 2) := by decide +kernel
theorem dX10_worth_6 : decode cX10_worth 6 = .ok (.iload 6, 2) := by decide +kernel
theorem dX10_worth_8 : decode cX10_worth 8 = .ok (.iconst 5, 1) := by decide +kernel
theorem dX10_worth_9 : decode cX10_worth 9 = .ok (.if_icmp .ge 89, 3) := by decide +kernel
theorem dX10_worth_12 : decode cX10_worth 12 = .ok (.iload_n 3, 1) := by decide +kernel
theorem dX10_worth_13 : decode cX10_worth 13 = .ok (.iload_n 1, 1) := by decide +kernel
theorem dX10_worth_14 : decode cX10_worth 14 = .ok (.ifCond .ne 10, 3) := by decide +kernel
theorem dX10_worth_17 : decode cX10_worth 17 = .ok (.iload 6, 2) := by decide +kernel
theorem dX10_worth_19 : decode cX10_worth 19 = .ok (.iconst 2, 1) := by decide +kernel
theorem dX10_worth_20 : decode cX10_worth 20 = .ok (.isub, 1) := by decide +kernel
theorem dX10_worth_21 : decode cX10_worth 21 = .ok (.goto 7, 3) := by decide +kernel
theorem dX10_worth_24 : decode cX10_worth 24 = .ok (.iconst 2, 1) := by decide +kernel
theorem dX10_worth_25 : decode cX10_worth 25 = .ok (.iload 6, 2) := by decide +kernel
theorem dX10_worth_27 : decode cX10_worth 27 = .ok (.isub, 1) := by decide +kernel
theorem dX10_worth_28 : decode cX10_worth 28 = .ok (.iadd, 1) := by decide +kernel
theorem dX10_worth_29 : decode cX10_worth 29 = .ok (.istore 7, 2) := by decide +kernel
theorem dX10_worth_31 : decode cX10_worth 31 = .ok (.iload 7, 2) := by decide +kernel
theorem dX10_worth_33 : decode cX10_worth 33 = .ok (.bipush 9, 2) := by decide +kernel
theorem dX10_worth_35 : decode cX10_worth 35 = .ok (.if_icmp .le 8, 3) := by decide +kernel
theorem dX10_worth_38 : decode cX10_worth 38 = .ok (.bipush 9, 2) := by decide +kernel
theorem dX10_worth_40 : decode cX10_worth 40 = .ok (.goto 17, 3) := by decide +kernel
theorem dX10_worth_43 : decode cX10_worth 43 = .ok (.iload 7, 2) := by decide +kernel
theorem dX10_worth_45 : decode cX10_worth 45 = .ok (.bipush (-9), 2) := by decide +kernel
theorem dX10_worth_47 : decode cX10_worth 47 = .ok (.if_icmp .ge 8, 3) := by decide +kernel
theorem dX10_worth_50 : decode cX10_worth 50 = .ok (.bipush (-9), 2) := by decide +kernel
theorem dX10_worth_52 : decode cX10_worth 52 = .ok (.goto 5, 3) := by decide +kernel
theorem dX10_worth_55 : decode cX10_worth 55 = .ok (.iload 7, 2) := by decide +kernel
theorem dX10_worth_57 : decode cX10_worth 57 = .ok (.istore 7, 2) := by decide +kernel
theorem dX10_worth_59 : decode cX10_worth 59 = .ok (.lload 4, 2) := by decide +kernel
theorem dX10_worth_61 : decode cX10_worth 61 = .ok (.aload_n 0, 1) := by decide +kernel
theorem dX10_worth_62 : decode cX10_worth 62 = .ok (.getfield 67, 3) := by decide +kernel
theorem dX10_worth_65 : decode cX10_worth 65 = .ok (.bipush 15, 2) := by decide +kernel
theorem dX10_worth_67 : decode cX10_worth 67 = .ok (.iload_n 1, 1) := by decide +kernel
theorem dX10_worth_68 : decode cX10_worth 68 = .ok (.imul, 1) := by decide +kernel
theorem dX10_worth_69 : decode cX10_worth 69 = .ok (.iconst 5, 1) := by decide +kernel
theorem dX10_worth_70 : decode cX10_worth 70 = .ok (.iload_n 2, 1) := by decide +kernel
theorem dX10_worth_71 : decode cX10_worth 71 = .ok (.imul, 1) := by decide +kernel
theorem dX10_worth_72 : decode cX10_worth 72 = .ok (.iadd, 1) := by decide +kernel
theorem dX10_worth_73 : decode cX10_worth 73 = .ok (.iload 6, 2) := by decide +kernel
theorem dX10_worth_75 : decode cX10_worth 75 = .ok (.iadd, 1) := by decide +kernel
theorem dX10_worth_76 : decode cX10_worth 76 = .ok (.iaload, 1) := by decide +kernel
theorem dX10_worth_77 : decode cX10_worth 77 = .ok (.i2l, 1) := by decide +kernel
theorem dX10_worth_78 : decode cX10_worth 78 = .ok (.aload_n 0, 1) := by decide +kernel
theorem dX10_worth_79 : decode cX10_worth 79 = .ok (.getfield 70, 3) := by decide +kernel
theorem dX10_worth_82 : decode cX10_worth 82 = .ok (.iload 7, 2) := by decide +kernel
theorem dX10_worth_84 : decode cX10_worth 84 = .ok (.bipush 9, 2) := by decide +kernel
theorem dX10_worth_86 : decode cX10_worth 86 = .ok (.iadd, 1) := by decide +kernel
theorem dX10_worth_87 : decode cX10_worth 87 = .ok (.laload, 1) := by decide +kernel
theorem dX10_worth_88 : decode cX10_worth 88 = .ok (.lmul, 1) := by decide +kernel
theorem dX10_worth_89 : decode cX10_worth 89 = .ok (.ladd, 1) := by decide +kernel
theorem dX10_worth_90 : decode cX10_worth 90 = .ok (.lstore 4, 2) := by decide +kernel
theorem dX10_worth_92 : decode cX10_worth 92 = .ok (.iinc 6 1, 3) := by decide +kernel
theorem dX10_worth_95 : decode cX10_worth 95 = .ok (.goto (-89), 3) := by decide +kernel
theorem dX10_worth_98 : decode cX10_worth 98 = .ok (.lload 4, 2) := by decide +kernel
theorem dX10_worth_100 : decode cX10_worth 100 = .ok (.lreturn, 1) := by decide +kernel
theorem dX10_bestWorth_0 : decode cX10_bestWorth 0 = .ok (.aload_n 0, 1) := by decide +kernel
theorem dX10_bestWorth_1 : decode cX10_bestWorth 1 = .ok (.iconst 0, 1) := by decide +kernel
theorem dX10_bestWorth_2 : decode cX10_bestWorth 2 = .ok (.putfield 335, 3) := by decide +kernel
theorem dX10_bestWorth_5 : decode cX10_bestWorth 5 = .ok (.aload_n 0, 1) := by decide +kernel
theorem dX10_bestWorth_6 : decode cX10_bestWorth 6 = .ok (.iload_n 1, 1) := by decide +kernel
theorem dX10_bestWorth_7 : decode cX10_bestWorth 7 = .ok (.iconst 0, 1) := by decide +kernel
theorem dX10_bestWorth_8 : decode cX10_bestWorth 8 = .ok (.iload_n 2, 1) := by decide +kernel
theorem dX10_bestWorth_9 : decode cX10_bestWorth 9 = .ok (.invokevirtual 338, 3) := by decide +kernel
theorem dX10_bestWorth_12 : decode cX10_bestWorth 12 = .ok (.lstore_n 3, 1) := by decide +kernel
theorem dX10_bestWorth_13 : decode cX10_bestWorth 13 = .ok (.iconst 1, 1) := by decide +kernel
theorem dX10_bestWorth_14 : decode cX10_bestWorth 14 = .ok (.istore 5, 2) := by decide +kernel
theorem dX10_bestWorth_16 : decode cX10_bestWorth 16 = .ok (.iload 5, 2) := by decide +kernel
theorem dX10_bestWorth_18 : decode cX10_bestWorth 18 = .ok (.iconst 3, 1) := by decide +kernel
theorem dX10_bestWorth_19 : decode cX10_bestWorth 19 = .ok (.if_icmp .ge 49, 3) := by decide +kernel
theorem dX10_bestWorth_22 : decode cX10_bestWorth 22 = .ok (.aload_n 0, 1) := by decide +kernel
theorem dX10_bestWorth_23 : decode cX10_bestWorth 23 = .ok (.iload_n 1, 1) := by decide +kernel
theorem dX10_bestWorth_24 : decode cX10_bestWorth 24 = .ok (.iload 5, 2) := by decide +kernel
theorem dX10_bestWorth_26 : decode cX10_bestWorth 26 = .ok (.iload_n 2, 1) := by decide +kernel
theorem dX10_bestWorth_27 : decode cX10_bestWorth 27 = .ok (.invokevirtual 338, 3) := by decide +kernel
theorem dX10_bestWorth_30 : decode cX10_bestWorth 30 = .ok (.lstore 6, 2) := by decide +kernel
theorem dX10_bestWorth_32 : decode cX10_bestWorth 32 = .ok (.iload_n 1, 1) := by decide +kernel
theorem dX10_bestWorth_33 : decode cX10_bestWorth 33 = .ok (.ifCond .ne 13, 3) := by decide +kernel
theorem dX10_bestWorth_36 : decode cX10_bestWorth 36 = .ok (.lload 6, 2) := by decide +kernel
theorem dX10_bestWorth_38 : decode cX10_bestWorth 38 = .ok (.lload_n 3, 1) := by decide +kernel
theorem dX10_bestWorth_39 : decode cX10_bestWorth 39 = .ok (.lcmp, 1) := by decide +kernel
theorem dX10_bestWorth_40 : decode cX10_bestWorth 40 = .ok (.ifCond .le 22, 3) := by decide +kernel
theorem dX10_bestWorth_43 : decode cX10_bestWorth 43 = .ok (.goto 10, 3) := by decide +kernel
theorem dX10_bestWorth_46 : decode cX10_bestWorth 46 = .ok (.lload 6, 2) := by decide +kernel
theorem dX10_bestWorth_48 : decode cX10_bestWorth 48 = .ok (.lload_n 3, 1) := by decide +kernel
theorem dX10_bestWorth_49 : decode cX10_bestWorth 49 = .ok (.lcmp, 1) := by decide +kernel
theorem dX10_bestWorth_50 : decode cX10_bestWorth 50 = .ok (.ifCond .ge 12, 3) := by decide +kernel
theorem dX10_bestWorth_53 : decode cX10_bestWorth 53 = .ok (.lload 6, 2) := by decide +kernel
theorem dX10_bestWorth_55 : decode cX10_bestWorth 55 = .ok (.lstore_n 3, 1) := by decide +kernel
theorem dX10_bestWorth_56 : decode cX10_bestWorth 56 = .ok (.aload_n 0, 1) := by decide +kernel
theorem dX10_bestWorth_57 : decode cX10_bestWorth 57 = .ok (.iload 5, 2) := by decide +kernel
theorem dX10_bestWorth_59 : decode cX10_bestWorth 59 = .ok (.putfield 335, 3) := by decide +kernel
theorem dX10_bestWorth_62 : decode cX10_bestWorth 62 = .ok (.iinc 5 1, 3) := by decide +kernel
theorem dX10_bestWorth_65 : decode cX10_bestWorth 65 = .ok (.goto (-49), 3) := by decide +kernel
theorem dX10_bestWorth_68 : decode cX10_bestWorth 68 = .ok (.lload_n 3, 1) := by decide +kernel
theorem dX10_bestWorth_69 : decode cX10_bestWorth 69 = .ok (.lreturn, 1) := by decide +kernel
theorem dX10_win_0 : decode cX10_win 0 = .ok (.iload_n 1, 1) := by decide +kernel
theorem dX10_win_1 : decode cX10_win 1 = .ok (.i2l, 1) := by decide +kernel
theorem dX10_win_2 : decode cX10_win 2 = .ok (.lconst 0, 1) := by decide +kernel
theorem dX10_win_3 : decode cX10_win 3 = .ok (.ldc2_w 342, 3) := by decide +kernel
theorem dX10_win_6 : decode cX10_win 6 = .ok (.invokestatic 117, 3) := by decide +kernel
theorem dX10_win_9 : decode cX10_win 9 = .ok (.ifCond .eq 55, 3) := by decide +kernel
theorem dX10_win_12 : decode cX10_win 12 = .ok (.iload_n 2, 1) := by decide +kernel
theorem dX10_win_13 : decode cX10_win 13 = .ok (.i2l, 1) := by decide +kernel
theorem dX10_win_14 : decode cX10_win 14 = .ok (.lconst 0, 1) := by decide +kernel
theorem dX10_win_15 : decode cX10_win 15 = .ok (.lconst 1, 1) := by decide +kernel
theorem dX10_win_16 : decode cX10_win 16 = .ok (.invokestatic 117, 3) := by decide +kernel
theorem dX10_win_19 : decode cX10_win 19 = .ok (.ifCond .eq 45, 3) := by decide +kernel
theorem dX10_win_22 : decode cX10_win 22 = .ok (.iload_n 3, 1) := by decide +kernel
theorem dX10_win_23 : decode cX10_win 23 = .ok (.i2l, 1) := by decide +kernel
theorem dX10_win_24 : decode cX10_win 24 = .ok (.ldc2_w 344, 3) := by decide +kernel
theorem dX10_win_27 : decode cX10_win 27 = .ok (.ldc2_w 133, 3) := by decide +kernel
theorem dX10_win_30 : decode cX10_win 30 = .ok (.invokestatic 117, 3) := by decide +kernel
theorem dX10_win_33 : decode cX10_win 33 = .ok (.ifCond .eq 31, 3) := by decide +kernel
theorem dX10_win_36 : decode cX10_win 36 = .ok (.iload 4, 2) := by decide +kernel
theorem dX10_win_38 : decode cX10_win 38 = .ok (.i2l, 1) := by decide +kernel
theorem dX10_win_39 : decode cX10_win 39 = .ok (.ldc2_w 344, 3) := by decide +kernel
theorem dX10_win_42 : decode cX10_win 42 = .ok (.ldc2_w 133, 3) := by decide +kernel
theorem dX10_win_45 : decode cX10_win 45 = .ok (.invokestatic 117, 3) := by decide +kernel
theorem dX10_win_48 : decode cX10_win 48 = .ok (.ifCond .eq 16, 3) := by decide +kernel
theorem dX10_win_51 : decode cX10_win 51 = .ok (.iload 5, 2) := by decide +kernel
theorem dX10_win_53 : decode cX10_win 53 = .ok (.i2l, 1) := by decide +kernel
theorem dX10_win_54 : decode cX10_win 54 = .ok (.lconst 0, 1) := by decide +kernel
theorem dX10_win_55 : decode cX10_win 55 = .ok (.ldc2_w 129, 3) := by decide +kernel
theorem dX10_win_58 : decode cX10_win 58 = .ok (.invokestatic 117, 3) := by decide +kernel
theorem dX10_win_61 : decode cX10_win 61 = .ok (.ifCond .ne 7, 3) := by decide +kernel
theorem dX10_win_64 : decode cX10_win 64 = .ok (.ldc2_w 346, 3) := by decide +kernel
theorem dX10_win_67 : decode cX10_win 67 = .ok (.lreturn, 1) := by decide +kernel
theorem dX10_win_68 : decode cX10_win 68 = .ok (.bipush (-9), 2) := by decide +kernel
theorem dX10_win_70 : decode cX10_win 70 = .ok (.istore 6, 2) := by decide +kernel
theorem dX10_win_72 : decode cX10_win 72 = .ok (.iload 6, 2) := by decide +kernel
theorem dX10_win_74 : decode cX10_win 74 = .ok (.bipush 9, 2) := by decide +kernel
theorem dX10_win_76 : decode cX10_win 76 = .ok (.if_icmp .gt 31, 3) := by decide +kernel
theorem dX10_win_79 : decode cX10_win 79 = .ok (.aload_n 0, 1) := by decide +kernel
theorem dX10_win_80 : decode cX10_win 80 = .ok (.getfield 70, 3) := by decide +kernel
theorem dX10_win_83 : decode cX10_win 83 = .ok (.iload 6, 2) := by decide +kernel
theorem dX10_win_85 : decode cX10_win 85 = .ok (.bipush 9, 2) := by decide +kernel
theorem dX10_win_87 : decode cX10_win 87 = .ok (.iadd, 1) := by decide +kernel
theorem dX10_win_88 : decode cX10_win 88 = .ok (.iload 6, 2) := by decide +kernel
theorem dX10_win_90 : decode cX10_win 90 = .ok (.iload 4, 2) := by decide +kernel
theorem dX10_win_92 : decode cX10_win 92 = .ok (.if_icmp .lt 7, 3) := by decide +kernel
theorem dX10_win_95 : decode cX10_win 95 = .ok (.lconst 1, 1) := by decide +kernel
theorem dX10_win_96 : decode cX10_win 96 = .ok (.goto 4, 3) := by decide +kernel
theorem dX10_win_99 : decode cX10_win 99 = .ok (.lconst 0, 1) := by decide +kernel
theorem dX10_win_100 : decode cX10_win 100 = .ok (.lastore, 1) := by decide +kernel
theorem dX10_win_101 : decode cX10_win 101 = .ok (.iinc 6 1, 3) := by decide +kernel
theorem dX10_win_104 : decode cX10_win 104 = .ok (.goto (-32), 3) := by decide +kernel
theorem dX10_win_107 : decode cX10_win 107 = .ok (.lconst 1, 1) := by decide +kernel
theorem dX10_win_108 : decode cX10_win 108 = .ok (.lstore 6, 2) := by decide +kernel
theorem dX10_win_110 : decode cX10_win 110 = .ok (.aload_n 0, 1) := by decide +kernel
theorem dX10_win_111 : decode cX10_win 111 = .ok (.iconst (-1), 1) := by decide +kernel
theorem dX10_win_112 : decode cX10_win 112 = .ok (.putfield 335, 3) := by decide +kernel
theorem dX10_win_115 : decode cX10_win 115 = .ok (.iload_n 1, 1) := by decide +kernel
theorem dX10_win_116 : decode cX10_win 116 = .ok (.iconst 1, 1) := by decide +kernel
theorem dX10_win_117 : decode cX10_win 117 = .ok (.isub, 1) := by decide +kernel
theorem dX10_win_118 : decode cX10_win 118 = .ok (.istore 8, 2) := by decide +kernel
theorem dX10_win_120 : decode cX10_win 120 = .ok (.iload 8, 2) := by decide +kernel
theorem dX10_win_122 : decode cX10_win 122 = .ok (.ifCond .lt 112, 3) := by decide +kernel
theorem dX10_win_125 : decode cX10_win 125 = .ok (.iload 8, 2) := by decide +kernel
theorem dX10_win_127 : decode cX10_win 127 = .ok (.iconst 2, 1) := by decide +kernel
theorem dX10_win_128 : decode cX10_win 128 = .ok (.irem, 1) := by decide +kernel
theorem dX10_win_129 : decode cX10_win 129 = .ok (.ifCond .ne 7, 3) := by decide +kernel
theorem dX10_win_132 : decode cX10_win 132 = .ok (.iload_n 2, 1) := by decide +kernel
theorem dX10_win_133 : decode cX10_win 133 = .ok (.goto 6, 3) := by decide +kernel
theorem dX10_win_136 : decode cX10_win 136 = .ok (.iconst 1, 1) := by decide +kernel
theorem dX10_win_137 : decode cX10_win 137 = .ok (.iload_n 2, 1) := by decide +kernel
theorem dX10_win_138 : decode cX10_win 138 = .ok (.isub, 1) := by decide +kernel
theorem dX10_win_139 : decode cX10_win 139 = .ok (.istore 9, 2) := by decide +kernel
theorem dX10_win_141 : decode cX10_win 141 = .ok (.bipush (-9), 2) := by decide +kernel
theorem dX10_win_143 : decode cX10_win 143 = .ok (.istore 10, 2) := by decide +kernel
theorem dX10_win_145 : decode cX10_win 145 = .ok (.iload 10, 2) := by decide +kernel
theorem dX10_win_147 : decode cX10_win 147 = .ok (.bipush 9, 2) := by decide +kernel
theorem dX10_win_149 : decode cX10_win 149 = .ok (.if_icmp .gt 27, 3) := by decide +kernel
theorem dX10_win_152 : decode cX10_win 152 = .ok (.aload_n 0, 1) := by decide +kernel
theorem dX10_win_153 : decode cX10_win 153 = .ok (.getfield 73, 3) := by decide +kernel
theorem dX10_win_156 : decode cX10_win 156 = .ok (.iload 10, 2) := by decide +kernel
theorem dX10_win_158 : decode cX10_win 158 = .ok (.bipush 9, 2) := by decide +kernel
theorem dX10_win_160 : decode cX10_win 160 = .ok (.iadd, 1) := by decide +kernel
theorem dX10_win_161 : decode cX10_win 161 = .ok (.aload_n 0, 1) := by decide +kernel
theorem dX10_win_162 : decode cX10_win 162 = .ok (.iload 9, 2) := by decide +kernel
theorem dX10_win_164 : decode cX10_win 164 = .ok (.iload 10, 2) := by decide +kernel
theorem dX10_win_166 : decode cX10_win 166 = .ok (.invokevirtual 348, 3) := by decide +kernel
theorem dX10_win_169 : decode cX10_win 169 = .ok (.lastore, 1) := by decide +kernel
theorem dX10_win_170 : decode cX10_win 170 = .ok (.iinc 10 1, 3) := by decide +kernel
theorem dX10_win_173 : decode cX10_win 173 = .ok (.goto (-28), 3) := by decide +kernel
theorem dX10_win_176 : decode cX10_win 176 = .ok (.iload 8, 2) := by decide +kernel
theorem dX10_win_178 : decode cX10_win 178 = .ok (.ifCond .ne 12, 3) := by decide +kernel
theorem dX10_win_181 : decode cX10_win 181 = .ok (.aload_n 0, 1) := by decide +kernel
theorem dX10_win_182 : decode cX10_win 182 = .ok (.iload 9, 2) := by decide +kernel
theorem dX10_win_184 : decode cX10_win 184 = .ok (.iload_n 3, 1) := by decide +kernel
theorem dX10_win_185 : decode cX10_win 185 = .ok (.invokevirtual 348, 3) := by decide +kernel
theorem dX10_win_188 : decode cX10_win 188 = .ok (.lstore 10, 2) := by decide +kernel
theorem dX10_win_190 : decode cX10_win 190 = .ok (.iconst 0, 1) := by decide +kernel
theorem dX10_win_191 : decode cX10_win 191 = .ok (.istore 10, 2) := by decide +kernel
theorem dX10_win_193 : decode cX10_win 193 = .ok (.iload 10, 2) := by decide +kernel
theorem dX10_win_195 : decode cX10_win 195 = .ok (.bipush 19, 2) := by decide +kernel
theorem dX10_win_197 : decode cX10_win 197 = .ok (.if_icmp .ge 23, 3) := by decide +kernel
theorem dX10_win_200 : decode cX10_win 200 = .ok (.aload_n 0, 1) := by decide +kernel
theorem dX10_win_201 : decode cX10_win 201 = .ok (.getfield 70, 3) := by decide +kernel
theorem dX10_win_204 : decode cX10_win 204 = .ok (.iload 10, 2) := by decide +kernel
theorem dX10_win_206 : decode cX10_win 206 = .ok (.aload_n 0, 1) := by decide +kernel
theorem dX10_win_207 : decode cX10_win 207 = .ok (.getfield 73, 3) := by decide +kernel
theorem dX10_win_210 : decode cX10_win 210 = .ok (.iload 10, 2) := by decide +kernel
theorem dX10_win_212 : decode cX10_win 212 = .ok (.laload, 1) := by decide +kernel
theorem dX10_win_213 : decode cX10_win 213 = .ok (.lastore, 1) := by decide +kernel
theorem dX10_win_214 : decode cX10_win 214 = .ok (.iinc 10 1, 3) := by decide +kernel
theorem dX10_win_217 : decode cX10_win 217 = .ok (.goto (-24), 3) := by decide +kernel
theorem dX10_win_220 : decode cX10_win 220 = .ok (.lload 6, 2) := by decide +kernel
theorem dX10_win_222 : decode cX10_win 222 = .ok (.ldc2_w 131, 3) := by decide +kernel
theorem dX10_win_225 : decode cX10_win 225 = .ok (.lmul, 1) := by decide +kernel
theorem dX10_win_226 : decode cX10_win 226 = .ok (.lstore 6, 2) := by decide +kernel
theorem dX10_win_228 : decode cX10_win 228 = .ok (.iinc 8 (-1), 3) := by decide +kernel
theorem dX10_win_231 : decode cX10_win 231 = .ok (.goto (-111), 3) := by decide +kernel
theorem dX10_win_234 : decode cX10_win 234 = .ok (.aload_n 0, 1) := by decide +kernel
theorem dX10_win_235 : decode cX10_win 235 = .ok (.getfield 70, 3) := by decide +kernel
theorem dX10_win_238 : decode cX10_win 238 = .ok (.iload_n 3, 1) := by decide +kernel
theorem dX10_win_239 : decode cX10_win 239 = .ok (.bipush 9, 2) := by decide +kernel
theorem dX10_win_241 : decode cX10_win 241 = .ok (.iadd, 1) := by decide +kernel
theorem dX10_win_242 : decode cX10_win 242 = .ok (.laload, 1) := by decide +kernel
theorem dX10_win_243 : decode cX10_win 243 = .ok (.lstore 8, 2) := by decide +kernel
theorem dX10_win_245 : decode cX10_win 245 = .ok (.lload 8, 2) := by decide +kernel
theorem dX10_win_247 : decode cX10_win 247 = .ok (.lload 6, 2) := by decide +kernel
theorem dX10_win_249 : decode cX10_win 249 = .ok (.invokestatic 352, 3) := by decide +kernel
theorem dX10_win_252 : decode cX10_win 252 = .ok (.lstore 10, 2) := by decide +kernel
theorem dX10_win_254 : decode cX10_win 254 = .ok (.iload 5, 2) := by decide +kernel
theorem dX10_win_256 : decode cX10_win 256 = .ok (.ifCond .ne 11, 3) := by decide +kernel
theorem dX10_win_259 : decode cX10_win 259 = .ok (.lload 8, 2) := by decide +kernel
theorem dX10_win_261 : decode cX10_win 261 = .ok (.lload 10, 2) := by decide +kernel
theorem dX10_win_263 : decode cX10_win 263 = .ok (.ldiv, 1) := by decide +kernel
theorem dX10_win_264 : decode cX10_win 264 = .ok (.goto 22, 3) := by decide +kernel
theorem dX10_win_267 : decode cX10_win 267 = .ok (.iload 5, 2) := by decide +kernel
theorem dX10_win_269 : decode cX10_win 269 = .ok (.iconst 1, 1) := by decide +kernel
theorem dX10_win_270 : decode cX10_win 270 = .ok (.if_icmp .ne 11, 3) := by decide +kernel
theorem dX10_win_273 : decode cX10_win 273 = .ok (.lload 6, 2) := by decide +kernel
theorem dX10_win_275 : decode cX10_win 275 = .ok (.lload 10, 2) := by decide +kernel
theorem dX10_win_277 : decode cX10_win 277 = .ok (.ldiv, 1) := by decide +kernel
theorem dX10_win_278 : decode cX10_win 278 = .ok (.goto 8, 3) := by decide +kernel
theorem dX10_win_281 : decode cX10_win 281 = .ok (.aload_n 0, 1) := by decide +kernel
theorem dX10_win_282 : decode cX10_win 282 = .ok (.getfield 335, 3) := by decide +kernel
theorem dX10_win_285 : decode cX10_win 285 = .ok (.i2l, 1) := by decide +kernel
theorem dX10_win_286 : decode cX10_win 286 = .ok (.lreturn, 1) := by decide +kernel
theorem dX10_noMatch_0 : decode cX10_noMatch 0 = .ok (.iload_n 1, 1) := by decide +kernel
theorem dX10_noMatch_1 : decode cX10_noMatch 1 = .ok (.i2l, 1) := by decide +kernel
theorem dX10_noMatch_2 : decode cX10_noMatch 2 = .ok (.lconst 0, 1) := by decide +kernel
theorem dX10_noMatch_3 : decode cX10_noMatch 3 = .ok (.aload_n 0, 1) := by decide +kernel
theorem dX10_noMatch_4 : decode cX10_noMatch 4 = .ok (.getfield 195, 3) := by decide +kernel
theorem dX10_noMatch_7 : decode cX10_noMatch 7 = .ok (.iconst 1, 1) := by decide +kernel
theorem dX10_noMatch_8 : decode cX10_noMatch 8 = .ok (.isub, 1) := by decide +kernel
theorem dX10_noMatch_9 : decode cX10_noMatch 9 = .ok (.i2l, 1) := by decide +kernel
theorem dX10_noMatch_10 : decode cX10_noMatch 10 = .ok (.invokestatic 117, 3) := by decide +kernel
theorem dX10_noMatch_13 : decode cX10_noMatch 13 = .ok (.ifCond .ne 7, 3) := by decide +kernel
theorem dX10_noMatch_16 : decode cX10_noMatch 16 = .ok (.iconst 1, 1) := by decide +kernel
theorem dX10_noMatch_17 : decode cX10_noMatch 17 = .ok (.goto 4, 3) := by decide +kernel
theorem dX10_noMatch_20 : decode cX10_noMatch 20 = .ok (.iconst 0, 1) := by decide +kernel
theorem dX10_noMatch_21 : decode cX10_noMatch 21 = .ok (.ireturn, 1) := by decide +kernel
theorem dX10_gameOf_0 : decode cX10_gameOf 0 = .ok (.aload_n 0, 1) := by decide +kernel
theorem dX10_gameOf_1 : decode cX10_gameOf 1 = .ok (.getfield 82, 3) := by decide +kernel
theorem dX10_gameOf_4 : decode cX10_gameOf 4 = .ok (.iload_n 1, 1) := by decide +kernel
theorem dX10_gameOf_5 : decode cX10_gameOf 5 = .ok (.iaload, 1) := by decide +kernel
theorem dX10_gameOf_6 : decode cX10_gameOf 6 = .ok (.ifCond .eq 19, 3) := by decide +kernel
theorem dX10_gameOf_9 : decode cX10_gameOf 9 = .ok (.aload_n 0, 1) := by decide +kernel
theorem dX10_gameOf_10 : decode cX10_gameOf 10 = .ok (.getfield 82, 3) := by decide +kernel
theorem dX10_gameOf_13 : decode cX10_gameOf 13 = .ok (.iload_n 1, 1) := by decide +kernel
theorem dX10_gameOf_14 : decode cX10_gameOf 14 = .ok (.iaload, 1) := by decide +kernel
theorem dX10_gameOf_15 : decode cX10_gameOf 15 = .ok (.iconst 2, 1) := by decide +kernel
theorem dX10_gameOf_16 : decode cX10_gameOf 16 = .ok (.if_icmp .ne 18, 3) := by decide +kernel
theorem dX10_gameOf_19 : decode cX10_gameOf 19 = .ok (.iload_n 2, 1) := by decide +kernel
theorem dX10_gameOf_20 : decode cX10_gameOf 20 = .ok (.iconst 2, 1) := by decide +kernel
theorem dX10_gameOf_21 : decode cX10_gameOf 21 = .ok (.irem, 1) := by decide +kernel
theorem dX10_gameOf_22 : decode cX10_gameOf 22 = .ok (.ifCond .ne 12, 3) := by decide +kernel
theorem dX10_gameOf_25 : decode cX10_gameOf 25 = .ok (.aload_n 0, 1) := by decide +kernel
theorem dX10_gameOf_26 : decode cX10_gameOf 26 = .ok (.getfield 76, 3) := by decide +kernel
theorem dX10_gameOf_29 : decode cX10_gameOf 29 = .ok (.iload_n 1, 1) := by decide +kernel
theorem dX10_gameOf_30 : decode cX10_gameOf 30 = .ok (.iaload, 1) := by decide +kernel
theorem dX10_gameOf_31 : decode cX10_gameOf 31 = .ok (.goto 9, 3) := by decide +kernel
theorem dX10_gameOf_34 : decode cX10_gameOf 34 = .ok (.aload_n 0, 1) := by decide +kernel
theorem dX10_gameOf_35 : decode cX10_gameOf 35 = .ok (.getfield 79, 3) := by decide +kernel
theorem dX10_gameOf_38 : decode cX10_gameOf 38 = .ok (.iload_n 1, 1) := by decide +kernel
theorem dX10_gameOf_39 : decode cX10_gameOf 39 = .ok (.iaload, 1) := by decide +kernel
theorem dX10_gameOf_40 : decode cX10_gameOf 40 = .ok (.istore_n 3, 1) := by decide +kernel
theorem dX10_gameOf_41 : decode cX10_gameOf 41 = .ok (.aload_n 0, 1) := by decide +kernel
theorem dX10_gameOf_42 : decode cX10_gameOf 42 = .ok (.getfield 51, 3) := by decide +kernel
theorem dX10_gameOf_45 : decode cX10_gameOf 45 = .ok (.bipush 8, 2) := by decide +kernel
theorem dX10_gameOf_47 : decode cX10_gameOf 47 = .ok (.iload_n 3, 1) := by decide +kernel
theorem dX10_gameOf_48 : decode cX10_gameOf 48 = .ok (.imul, 1) := by decide +kernel
theorem dX10_gameOf_49 : decode cX10_gameOf 49 = .ok (.iconst 4, 1) := by decide +kernel
theorem dX10_gameOf_50 : decode cX10_gameOf 50 = .ok (.iadd, 1) := by decide +kernel
theorem dX10_gameOf_51 : decode cX10_gameOf 51 = .ok (.iaload, 1) := by decide +kernel
theorem dX10_gameOf_52 : decode cX10_gameOf 52 = .ok (.ireturn, 1) := by decide +kernel
theorem dX10_stateOf_0 : decode cX10_stateOf 0 = .ok (.aload_n 0, 1) := by decide +kernel
theorem dX10_stateOf_1 : decode cX10_stateOf 1 = .ok (.iconst 0, 1) := by decide +kernel
theorem dX10_stateOf_2 : decode cX10_stateOf 2 = .ok (.putfield 356, 3) := by decide +kernel
theorem dX10_stateOf_5 : decode cX10_stateOf 5 = .ok (.aload_n 0, 1) := by decide +kernel
theorem dX10_stateOf_6 : decode cX10_stateOf 6 = .ok (.iconst 0, 1) := by decide +kernel
theorem dX10_stateOf_7 : decode cX10_stateOf 7 = .ok (.putfield 359, 3) := by decide +kernel
theorem dX10_stateOf_10 : decode cX10_stateOf 10 = .ok (.aload_n 0, 1) := by decide +kernel
theorem dX10_stateOf_11 : decode cX10_stateOf 11 = .ok (.iconst 0, 1) := by decide +kernel
theorem dX10_stateOf_12 : decode cX10_stateOf 12 = .ok (.putfield 362, 3) := by decide +kernel
theorem dX10_stateOf_15 : decode cX10_stateOf 15 = .ok (.iconst 0, 1) := by decide +kernel
theorem dX10_stateOf_16 : decode cX10_stateOf 16 = .ok (.istore_n 2, 1) := by decide +kernel
theorem dX10_stateOf_17 : decode cX10_stateOf 17 = .ok (.iload_n 2, 1) := by decide +kernel
theorem dX10_stateOf_18 : decode cX10_stateOf 18 = .ok (.aload_n 0, 1) := by decide +kernel
theorem dX10_stateOf_19 : decode cX10_stateOf 19 = .ok (.getfield 88, 3) := by decide +kernel
theorem dX10_stateOf_22 : decode cX10_stateOf 22 = .ok (.iload_n 1, 1) := by decide +kernel
theorem dX10_stateOf_23 : decode cX10_stateOf 23 = .ok (.iaload, 1) := by decide +kernel
theorem dX10_stateOf_24 : decode cX10_stateOf 24 = .ok (.if_icmp .ge 123, 3) := by decide +kernel
theorem dX10_stateOf_27 : decode cX10_stateOf 27 = .ok (.aload_n 0, 1) := by decide +kernel
theorem dX10_stateOf_28 : decode cX10_stateOf 28 = .ok (.getfield 91, 3) := by decide +kernel
theorem dX10_stateOf_31 : decode cX10_stateOf 31 = .ok (.bipush 40, 2) := by decide +kernel
theorem dX10_stateOf_33 : decode cX10_stateOf 33 = .ok (.iload_n 1, 1) := by decide +kernel
theorem dX10_stateOf_34 : decode cX10_stateOf 34 = .ok (.imul, 1) := by decide +kernel
theorem dX10_stateOf_35 : decode cX10_stateOf 35 = .ok (.iload_n 2, 1) := by decide +kernel
theorem dX10_stateOf_36 : decode cX10_stateOf 36 = .ok (.iadd, 1) := by decide +kernel
theorem dX10_stateOf_37 : decode cX10_stateOf 37 = .ok (.iaload, 1) := by decide +kernel
theorem dX10_stateOf_38 : decode cX10_stateOf 38 = .ok (.istore_n 3, 1) := by decide +kernel
theorem dX10_stateOf_39 : decode cX10_stateOf 39 = .ok (.aload_n 0, 1) := by decide +kernel
theorem dX10_stateOf_40 : decode cX10_stateOf 40 = .ok (.dup, 1) := by decide +kernel
theorem dX10_stateOf_41 : decode cX10_stateOf 41 = .ok (.getfield 356, 3) := by decide +kernel
theorem dX10_stateOf_44 : decode cX10_stateOf 44 = .ok (.iload_n 3, 1) := by decide +kernel
theorem dX10_stateOf_45 : decode cX10_stateOf 45 = .ok (.ifCond .le 7, 3) := by decide +kernel
theorem dX10_stateOf_48 : decode cX10_stateOf 48 = .ok (.iload_n 3, 1) := by decide +kernel
theorem dX10_stateOf_49 : decode cX10_stateOf 49 = .ok (.goto 4, 3) := by decide +kernel
theorem dX10_stateOf_52 : decode cX10_stateOf 52 = .ok (.iconst 0, 1) := by decide +kernel
theorem dX10_stateOf_53 : decode cX10_stateOf 53 = .ok (.iadd, 1) := by decide +kernel
theorem dX10_stateOf_54 : decode cX10_stateOf 54 = .ok (.putfield 356, 3) := by decide +kernel
theorem dX10_stateOf_57 : decode cX10_stateOf 57 = .ok (.aload_n 0, 1) := by decide +kernel
theorem dX10_stateOf_58 : decode cX10_stateOf 58 = .ok (.dup, 1) := by decide +kernel
theorem dX10_stateOf_59 : decode cX10_stateOf 59 = .ok (.getfield 359, 3) := by decide +kernel
theorem dX10_stateOf_62 : decode cX10_stateOf 62 = .ok (.iload_n 3, 1) := by decide +kernel
theorem dX10_stateOf_63 : decode cX10_stateOf 63 = .ok (.ifCond .ge 9, 3) := by decide +kernel
theorem dX10_stateOf_66 : decode cX10_stateOf 66 = .ok (.iconst 0, 1) := by decide +kernel
theorem dX10_stateOf_67 : decode cX10_stateOf 67 = .ok (.iload_n 3, 1) := by decide +kernel
theorem dX10_stateOf_68 : decode cX10_stateOf 68 = .ok (.isub, 1) := by decide +kernel
theorem dX10_stateOf_69 : decode cX10_stateOf 69 = .ok (.goto 4, 3) := by decide +kernel
theorem dX10_stateOf_72 : decode cX10_stateOf 72 = .ok (.iconst 0, 1) := by decide +kernel
theorem dX10_stateOf_73 : decode cX10_stateOf 73 = .ok (.iadd, 1) := by decide +kernel
theorem dX10_stateOf_74 : decode cX10_stateOf 74 = .ok (.putfield 359, 3) := by decide +kernel
theorem dX10_stateOf_77 : decode cX10_stateOf 77 = .ok (.aload_n 0, 1) := by decide +kernel
theorem dX10_stateOf_78 : decode cX10_stateOf 78 = .ok (.dup, 1) := by decide +kernel
theorem dX10_stateOf_79 : decode cX10_stateOf 79 = .ok (.getfield 362, 3) := by decide +kernel
theorem dX10_stateOf_82 : decode cX10_stateOf 82 = .ok (.iconst 1, 1) := by decide +kernel
theorem dX10_stateOf_83 : decode cX10_stateOf 83 = .ok (.iadd, 1) := by decide +kernel
theorem dX10_stateOf_84 : decode cX10_stateOf 84 = .ok (.putfield 362, 3) := by decide +kernel
theorem dX10_stateOf_87 : decode cX10_stateOf 87 = .ok (.aload_n 0, 1) := by decide +kernel
theorem dX10_stateOf_88 : decode cX10_stateOf 88 = .ok (.iload_n 1, 1) := by decide +kernel
theorem dX10_stateOf_89 : decode cX10_stateOf 89 = .ok (.iload_n 2, 1) := by decide +kernel
theorem dX10_stateOf_90 : decode cX10_stateOf 90 = .ok (.invokevirtual 365, 3) := by decide +kernel
theorem dX10_stateOf_93 : decode cX10_stateOf 93 = .ok (.istore 4, 2) := by decide +kernel
theorem dX10_stateOf_95 : decode cX10_stateOf 95 = .ok (.aload_n 0, 1) := by decide +kernel
theorem dX10_stateOf_96 : decode cX10_stateOf 96 = .ok (.getfield 356, 3) := by decide +kernel
theorem dX10_stateOf_99 : decode cX10_stateOf 99 = .ok (.aload_n 0, 1) := by decide +kernel
theorem dX10_stateOf_100 : decode cX10_stateOf 100 = .ok (.getfield 359, 3) := by decide +kernel
theorem dX10_stateOf_103 : decode cX10_stateOf 103 = .ok (.if_icmp .eq 38, 3) := by decide +kernel
theorem dX10_stateOf_106 : decode cX10_stateOf 106 = .ok (.aload_n 0, 1) := by decide +kernel
theorem dX10_stateOf_107 : decode cX10_stateOf 107 = .ok (.getfield 356, 3) := by decide +kernel
theorem dX10_stateOf_110 : decode cX10_stateOf 110 = .ok (.iload 4, 2) := by decide +kernel
theorem dX10_stateOf_112 : decode cX10_stateOf 112 = .ok (.if_icmp .ge 12, 3) := by decide +kernel
theorem dX10_stateOf_115 : decode cX10_stateOf 115 = .ok (.aload_n 0, 1) := by decide +kernel
theorem dX10_stateOf_116 : decode cX10_stateOf 116 = .ok (.getfield 359, 3) := by decide +kernel
theorem dX10_stateOf_119 : decode cX10_stateOf 119 = .ok (.iload 4, 2) := by decide +kernel
theorem dX10_stateOf_121 : decode cX10_stateOf 121 = .ok (.if_icmp .lt 20, 3) := by decide +kernel
theorem dX10_stateOf_124 : decode cX10_stateOf 124 = .ok (.aload_n 0, 1) := by decide +kernel
theorem dX10_stateOf_125 : decode cX10_stateOf 125 = .ok (.getfield 356, 3) := by decide +kernel
theorem dX10_stateOf_128 : decode cX10_stateOf 128 = .ok (.aload_n 0, 1) := by decide +kernel
theorem dX10_stateOf_129 : decode cX10_stateOf 129 = .ok (.getfield 359, 3) := by decide +kernel
theorem dX10_stateOf_132 : decode cX10_stateOf 132 = .ok (.if_icmp .le 7, 3) := by decide +kernel
theorem dX10_stateOf_135 : decode cX10_stateOf 135 = .ok (.iconst 1, 1) := by decide +kernel
theorem dX10_stateOf_136 : decode cX10_stateOf 136 = .ok (.goto 4, 3) := by decide +kernel
theorem dX10_stateOf_139 : decode cX10_stateOf 139 = .ok (.iconst 2, 1) := by decide +kernel
theorem dX10_stateOf_140 : decode cX10_stateOf 140 = .ok (.ireturn, 1) := by decide +kernel
theorem dX10_stateOf_141 : decode cX10_stateOf 141 = .ok (.iinc 2 1, 3) := by decide +kernel
theorem dX10_stateOf_144 : decode cX10_stateOf 144 = .ok (.goto (-127), 3) := by decide +kernel
theorem dX10_stateOf_147 : decode cX10_stateOf 147 = .ok (.aload_n 0, 1) := by decide +kernel
theorem dX10_stateOf_148 : decode cX10_stateOf 148 = .ok (.getfield 85, 3) := by decide +kernel
theorem dX10_stateOf_151 : decode cX10_stateOf 151 = .ok (.iload_n 1, 1) := by decide +kernel
theorem dX10_stateOf_152 : decode cX10_stateOf 152 = .ok (.baload, 1) := by decide +kernel
theorem dX10_stateOf_153 : decode cX10_stateOf 153 = .ok (.ifCond .ne 7, 3) := by decide +kernel
theorem dX10_stateOf_156 : decode cX10_stateOf 156 = .ok (.iconst 0, 1) := by decide +kernel
theorem dX10_stateOf_157 : decode cX10_stateOf 157 = .ok (.goto 34, 3) := by decide +kernel
theorem dX10_stateOf_160 : decode cX10_stateOf 160 = .ok (.aload_n 0, 1) := by decide +kernel
theorem dX10_stateOf_161 : decode cX10_stateOf 161 = .ok (.getfield 356, 3) := by decide +kernel
theorem dX10_stateOf_164 : decode cX10_stateOf 164 = .ok (.aload_n 0, 1) := by decide +kernel
theorem dX10_stateOf_165 : decode cX10_stateOf 165 = .ok (.getfield 359, 3) := by decide +kernel
theorem dX10_stateOf_168 : decode cX10_stateOf 168 = .ok (.if_icmp .le 7, 3) := by decide +kernel
theorem dX10_stateOf_171 : decode cX10_stateOf 171 = .ok (.iconst 1, 1) := by decide +kernel
theorem dX10_stateOf_172 : decode cX10_stateOf 172 = .ok (.goto 19, 3) := by decide +kernel
theorem dX10_stateOf_175 : decode cX10_stateOf 175 = .ok (.aload_n 0, 1) := by decide +kernel
theorem dX10_stateOf_176 : decode cX10_stateOf 176 = .ok (.getfield 359, 3) := by decide +kernel
theorem dX10_stateOf_179 : decode cX10_stateOf 179 = .ok (.aload_n 0, 1) := by decide +kernel
theorem dX10_stateOf_180 : decode cX10_stateOf 180 = .ok (.getfield 356, 3) := by decide +kernel
theorem dX10_stateOf_183 : decode cX10_stateOf 183 = .ok (.if_icmp .le 7, 3) := by decide +kernel
theorem dX10_stateOf_186 : decode cX10_stateOf 186 = .ok (.iconst 2, 1) := by decide +kernel
theorem dX10_stateOf_187 : decode cX10_stateOf 187 = .ok (.goto 4, 3) := by decide +kernel
theorem dX10_stateOf_190 : decode cX10_stateOf 190 = .ok (.iconst 3, 1) := by decide +kernel
theorem dX10_stateOf_191 : decode cX10_stateOf 191 = .ok (.ireturn, 1) := by decide +kernel
theorem dX10_openOnes_0 : decode cX10_openOnes 0 = .ok (.iconst 0, 1) := by decide +kernel
theorem dX10_openOnes_1 : decode cX10_openOnes 1 = .ok (.istore_n 1, 1) := by decide +kernel
theorem dX10_openOnes_2 : decode cX10_openOnes 2 = .ok (.iconst 0, 1) := by decide +kernel
theorem dX10_openOnes_3 : decode cX10_openOnes 3 = .ok (.istore_n 2, 1) := by decide +kernel
theorem dX10_openOnes_4 : decode cX10_openOnes 4 = .ok (.iload_n 2, 1) := by decide +kernel
theorem dX10_openOnes_5 : decode cX10_openOnes 5 = .ok (.aload_n 0, 1) := by decide +kernel
theorem dX10_openOnes_6 : decode cX10_openOnes 6 = .ok (.getfield 195, 3) := by decide +kernel
theorem dX10_openOnes_9 : decode cX10_openOnes 9 = .ok (.if_icmp .ge 28, 3) := by decide +kernel
theorem dX10_openOnes_12 : decode cX10_openOnes 12 = .ok (.iload_n 1, 1) := by decide +kernel
theorem dX10_openOnes_13 : decode cX10_openOnes 13 = .ok (.aload_n 0, 1) := by decide +kernel
theorem dX10_openOnes_14 : decode cX10_openOnes 14 = .ok (.iload_n 2, 1) := by decide +kernel
theorem dX10_openOnes_15 : decode cX10_openOnes 15 = .ok (.invokevirtual 368, 3) := by decide +kernel
theorem dX10_openOnes_18 : decode cX10_openOnes 18 = .ok (.ifCond .ne 7, 3) := by decide +kernel
theorem dX10_openOnes_21 : decode cX10_openOnes 21 = .ok (.iconst 1, 1) := by decide +kernel
theorem dX10_openOnes_22 : decode cX10_openOnes 22 = .ok (.goto 4, 3) := by decide +kernel
theorem dX10_openOnes_25 : decode cX10_openOnes 25 = .ok (.iconst 0, 1) := by decide +kernel
theorem dX10_openOnes_26 : decode cX10_openOnes 26 = .ok (.invokestatic 155, 3) := by decide +kernel
theorem dX10_openOnes_29 : decode cX10_openOnes 29 = .ok (.iadd, 1) := by decide +kernel
theorem dX10_openOnes_30 : decode cX10_openOnes 30 = .ok (.istore_n 1, 1) := by decide +kernel
theorem dX10_openOnes_31 : decode cX10_openOnes 31 = .ok (.iinc 2 1, 3) := by decide +kernel
theorem dX10_openOnes_34 : decode cX10_openOnes 34 = .ok (.goto (-30), 3) := by decide +kernel
theorem dX10_openOnes_37 : decode cX10_openOnes 37 = .ok (.iload_n 1, 1) := by decide +kernel
theorem dX10_openOnes_38 : decode cX10_openOnes 38 = .ok (.ireturn, 1) := by decide +kernel
theorem dX10_match_0 : decode cX10_match 0 = .ok (.iload_n 1, 1) := by decide +kernel
theorem dX10_match_1 : decode cX10_match 1 = .ok (.invokestatic 277, 3) := by decide +kernel
theorem dX10_match_4 : decode cX10_match 4 = .ok (.ifCond .eq 10, 3) := by decide +kernel
theorem dX10_match_7 : decode cX10_match 7 = .ok (.iload_n 2, 1) := by decide +kernel
theorem dX10_match_8 : decode cX10_match 8 = .ok (.invokestatic 277, 3) := by decide +kernel
theorem dX10_match_11 : decode cX10_match 11 = .ok (.ifCond .ne 7, 3) := by decide +kernel
theorem dX10_match_14 : decode cX10_match 14 = .ok (.sipush (-1001), 3) := by decide +kernel
theorem dX10_match_17 : decode cX10_match 17 = .ok (.ireturn, 1) := by decide +kernel
theorem dX10_match_18 : decode cX10_match 18 = .ok (.iload_n 3, 1) := by decide +kernel
theorem dX10_match_19 : decode cX10_match 19 = .ok (.i2l, 1) := by decide +kernel
theorem dX10_match_20 : decode cX10_match 20 = .ok (.lconst 0, 1) := by decide +kernel
theorem dX10_match_21 : decode cX10_match 21 = .ok (.ldc2_w 129, 3) := by decide +kernel
theorem dX10_match_24 : decode cX10_match 24 = .ok (.invokestatic 117, 3) := by decide +kernel
theorem dX10_match_27 : decode cX10_match 27 = .ok (.ifCond .eq 8, 3) := by decide +kernel
theorem dX10_match_30 : decode cX10_match 30 = .ok (.iload_n 1, 1) := by decide +kernel
theorem dX10_match_31 : decode cX10_match 31 = .ok (.iload_n 2, 1) := by decide +kernel
theorem dX10_match_32 : decode cX10_match 32 = .ok (.if_icmp .ne 7, 3) := by decide +kernel
theorem dX10_match_35 : decode cX10_match 35 = .ok (.sipush (-1002), 3) := by decide +kernel
theorem dX10_match_38 : decode cX10_match 38 = .ok (.ireturn, 1) := by decide +kernel
theorem dX10_match_39 : decode cX10_match 39 = .ok (.aload_n 0, 1) := by decide +kernel
theorem dX10_match_40 : decode cX10_match 40 = .ok (.getfield 195, 3) := by decide +kernel
theorem dX10_match_43 : decode cX10_match 43 = .ok (.bipush 24, 2) := by decide +kernel
theorem dX10_match_45 : decode cX10_match 45 = .ok (.if_icmp .ne 7, 3) := by decide +kernel
theorem dX10_match_48 : decode cX10_match 48 = .ok (.sipush (-1004), 3) := by decide +kernel
theorem dX10_match_51 : decode cX10_match 51 = .ok (.ireturn, 1) := by decide +kernel
theorem dX10_match_52 : decode cX10_match 52 = .ok (.aload_n 0, 1) := by decide +kernel
theorem dX10_match_53 : decode cX10_match 53 = .ok (.getfield 76, 3) := by decide +kernel
theorem dX10_match_56 : decode cX10_match 56 = .ok (.aload_n 0, 1) := by decide +kernel
theorem dX10_match_57 : decode cX10_match 57 = .ok (.getfield 195, 3) := by decide +kernel
theorem dX10_match_60 : decode cX10_match 60 = .ok (.iload_n 1, 1) := by decide +kernel
theorem dX10_match_61 : decode cX10_match 61 = .ok (.iastore, 1) := by decide +kernel
theorem dX10_match_62 : decode cX10_match 62 = .ok (.aload_n 0, 1) := by decide +kernel
theorem dX10_match_63 : decode cX10_match 63 = .ok (.getfield 79, 3) := by decide +kernel
theorem dX10_match_66 : decode cX10_match 66 = .ok (.aload_n 0, 1) := by decide +kernel
theorem dX10_match_67 : decode cX10_match 67 = .ok (.getfield 195, 3) := by decide +kernel
theorem dX10_match_70 : decode cX10_match 70 = .ok (.iload_n 2, 1) := by decide +kernel
theorem dX10_match_71 : decode cX10_match 71 = .ok (.iastore, 1) := by decide +kernel
theorem dX10_match_72 : decode cX10_match 72 = .ok (.aload_n 0, 1) := by decide +kernel
theorem dX10_match_73 : decode cX10_match 73 = .ok (.getfield 82, 3) := by decide +kernel
theorem dX10_match_76 : decode cX10_match 76 = .ok (.aload_n 0, 1) := by decide +kernel
theorem dX10_match_77 : decode cX10_match 77 = .ok (.getfield 195, 3) := by decide +kernel
theorem dX10_match_80 : decode cX10_match 80 = .ok (.iload_n 3, 1) := by decide +kernel
theorem dX10_match_81 : decode cX10_match 81 = .ok (.iastore, 1) := by decide +kernel
theorem dX10_match_82 : decode cX10_match 82 = .ok (.aload_n 0, 1) := by decide +kernel
theorem dX10_match_83 : decode cX10_match 83 = .ok (.getfield 85, 3) := by decide +kernel
theorem dX10_match_86 : decode cX10_match 86 = .ok (.aload_n 0, 1) := by decide +kernel
theorem dX10_match_87 : decode cX10_match 87 = .ok (.getfield 195, 3) := by decide +kernel
theorem dX10_match_90 : decode cX10_match 90 = .ok (.iconst 0, 1) := by decide +kernel
theorem dX10_match_91 : decode cX10_match 91 = .ok (.bastore, 1) := by decide +kernel
theorem dX10_match_92 : decode cX10_match 92 = .ok (.aload_n 0, 1) := by decide +kernel
theorem dX10_match_93 : decode cX10_match 93 = .ok (.getfield 88, 3) := by decide +kernel
theorem dX10_match_96 : decode cX10_match 96 = .ok (.aload_n 0, 1) := by decide +kernel
theorem dX10_match_97 : decode cX10_match 97 = .ok (.getfield 195, 3) := by decide +kernel
theorem dX10_match_100 : decode cX10_match 100 = .ok (.iconst 0, 1) := by decide +kernel
theorem dX10_match_101 : decode cX10_match 101 = .ok (.iastore, 1) := by decide +kernel
theorem dX10_match_102 : decode cX10_match 102 = .ok (.aload_n 0, 1) := by decide +kernel
theorem dX10_match_103 : decode cX10_match 103 = .ok (.dup, 1) := by decide +kernel
theorem dX10_match_104 : decode cX10_match 104 = .ok (.getfield 195, 3) := by decide +kernel
theorem dX10_match_107 : decode cX10_match 107 = .ok (.iconst 1, 1) := by decide +kernel
theorem dX10_match_108 : decode cX10_match 108 = .ok (.iadd, 1) := by decide +kernel
theorem dX10_match_109 : decode cX10_match 109 = .ok (.putfield 195, 3) := by decide +kernel
theorem dX10_match_112 : decode cX10_match 112 = .ok (.aload_n 0, 1) := by decide +kernel
theorem dX10_match_113 : decode cX10_match 113 = .ok (.getfield 195, 3) := by decide +kernel
theorem dX10_match_116 : decode cX10_match 116 = .ok (.iconst 1, 1) := by decide +kernel
theorem dX10_match_117 : decode cX10_match 117 = .ok (.isub, 1) := by decide +kernel
theorem dX10_match_118 : decode cX10_match 118 = .ok (.ireturn, 1) := by decide +kernel
theorem dX10_end_0 : decode cX10_end 0 = .ok (.aload_n 0, 1) := by decide +kernel
theorem dX10_end_1 : decode cX10_end 1 = .ok (.iload_n 1, 1) := by decide +kernel
theorem dX10_end_2 : decode cX10_end 2 = .ok (.invokevirtual 371, 3) := by decide +kernel
theorem dX10_end_5 : decode cX10_end 5 = .ok (.ifCond .eq 7, 3) := by decide +kernel
theorem dX10_end_8 : decode cX10_end 8 = .ok (.sipush (-1001), 3) := by decide +kernel
theorem dX10_end_11 : decode cX10_end 11 = .ok (.ireturn, 1) := by decide +kernel
theorem dX10_end_12 : decode cX10_end 12 = .ok (.iload_n 2, 1) := by decide +kernel
theorem dX10_end_13 : decode cX10_end 13 = .ok (.i2l, 1) := by decide +kernel
theorem dX10_end_14 : decode cX10_end 14 = .ok (.ldc2_w 374, 3) := by decide +kernel
theorem dX10_end_17 : decode cX10_end 17 = .ok (.ldc2_w 376, 3) := by decide +kernel
theorem dX10_end_20 : decode cX10_end 20 = .ok (.invokestatic 117, 3) := by decide +kernel
theorem dX10_end_23 : decode cX10_end 23 = .ok (.ifCond .ne 7, 3) := by decide +kernel
theorem dX10_end_26 : decode cX10_end 26 = .ok (.sipush (-1002), 3) := by decide +kernel
theorem dX10_end_29 : decode cX10_end 29 = .ok (.ireturn, 1) := by decide +kernel
theorem dX10_end_30 : decode cX10_end 30 = .ok (.aload_n 0, 1) := by decide +kernel
theorem dX10_end_31 : decode cX10_end 31 = .ok (.iload_n 1, 1) := by decide +kernel
theorem dX10_end_32 : decode cX10_end 32 = .ok (.invokevirtual 368, 3) := by decide +kernel
theorem dX10_end_35 : decode cX10_end 35 = .ok (.ifCond .eq 7, 3) := by decide +kernel
theorem dX10_end_38 : decode cX10_end 38 = .ok (.sipush (-1003), 3) := by decide +kernel
theorem dX10_end_41 : decode cX10_end 41 = .ok (.ireturn, 1) := by decide +kernel
theorem dX10_end_42 : decode cX10_end 42 = .ok (.aload_n 0, 1) := by decide +kernel
theorem dX10_end_43 : decode cX10_end 43 = .ok (.getfield 88, 3) := by decide +kernel
theorem dX10_end_46 : decode cX10_end 46 = .ok (.iload_n 1, 1) := by decide +kernel
theorem dX10_end_47 : decode cX10_end 47 = .ok (.iaload, 1) := by decide +kernel
theorem dX10_end_48 : decode cX10_end 48 = .ok (.bipush 40, 2) := by decide +kernel
theorem dX10_end_50 : decode cX10_end 50 = .ok (.if_icmp .ne 7, 3) := by decide +kernel
theorem dX10_end_53 : decode cX10_end 53 = .ok (.sipush (-1004), 3) := by decide +kernel
theorem dX10_end_56 : decode cX10_end 56 = .ok (.ireturn, 1) := by decide +kernel
theorem dX10_end_57 : decode cX10_end 57 = .ok (.aload_n 0, 1) := by decide +kernel
theorem dX10_end_58 : decode cX10_end 58 = .ok (.getfield 91, 3) := by decide +kernel
theorem dX10_end_61 : decode cX10_end 61 = .ok (.bipush 40, 2) := by decide +kernel
theorem dX10_end_63 : decode cX10_end 63 = .ok (.iload_n 1, 1) := by decide +kernel
theorem dX10_end_64 : decode cX10_end 64 = .ok (.imul, 1) := by decide +kernel
theorem dX10_end_65 : decode cX10_end 65 = .ok (.aload_n 0, 1) := by decide +kernel
theorem dX10_end_66 : decode cX10_end 66 = .ok (.getfield 88, 3) := by decide +kernel
theorem dX10_end_69 : decode cX10_end 69 = .ok (.iload_n 1, 1) := by decide +kernel
theorem dX10_end_70 : decode cX10_end 70 = .ok (.iaload, 1) := by decide +kernel
theorem dX10_end_71 : decode cX10_end 71 = .ok (.iadd, 1) := by decide +kernel
theorem dX10_end_72 : decode cX10_end 72 = .ok (.iload_n 2, 1) := by decide +kernel
theorem dX10_end_73 : decode cX10_end 73 = .ok (.iastore, 1) := by decide +kernel
theorem dX10_end_74 : decode cX10_end 74 = .ok (.aload_n 0, 1) := by decide +kernel
theorem dX10_end_75 : decode cX10_end 75 = .ok (.getfield 88, 3) := by decide +kernel
theorem dX10_end_78 : decode cX10_end 78 = .ok (.iload_n 1, 1) := by decide +kernel
theorem dX10_end_79 : decode cX10_end 79 = .ok (.dup2, 1) := by decide +kernel
theorem dX10_end_80 : decode cX10_end 80 = .ok (.iaload, 1) := by decide +kernel
theorem dX10_end_81 : decode cX10_end 81 = .ok (.iconst 1, 1) := by decide +kernel
theorem dX10_end_82 : decode cX10_end 82 = .ok (.iadd, 1) := by decide +kernel
theorem dX10_end_83 : decode cX10_end 83 = .ok (.iastore, 1) := by decide +kernel
theorem dX10_end_84 : decode cX10_end 84 = .ok (.aload_n 0, 1) := by decide +kernel
theorem dX10_end_85 : decode cX10_end 85 = .ok (.getfield 88, 3) := by decide +kernel
theorem dX10_end_88 : decode cX10_end 88 = .ok (.iload_n 1, 1) := by decide +kernel
theorem dX10_end_89 : decode cX10_end 89 = .ok (.iaload, 1) := by decide +kernel
theorem dX10_end_90 : decode cX10_end 90 = .ok (.iconst 1, 1) := by decide +kernel
theorem dX10_end_91 : decode cX10_end 91 = .ok (.isub, 1) := by decide +kernel
theorem dX10_end_92 : decode cX10_end 92 = .ok (.ireturn, 1) := by decide +kernel
theorem dX10_mend_0 : decode cX10_mend 0 = .ok (.aload_n 0, 1) := by decide +kernel
theorem dX10_mend_1 : decode cX10_mend 1 = .ok (.iload_n 1, 1) := by decide +kernel
theorem dX10_mend_2 : decode cX10_mend 2 = .ok (.invokevirtual 371, 3) := by decide +kernel
theorem dX10_mend_5 : decode cX10_mend 5 = .ok (.ifCond .ne 21, 3) := by decide +kernel
theorem dX10_mend_8 : decode cX10_mend 8 = .ok (.iload_n 2, 1) := by decide +kernel
theorem dX10_mend_9 : decode cX10_mend 9 = .ok (.i2l, 1) := by decide +kernel
theorem dX10_mend_10 : decode cX10_mend 10 = .ok (.lconst 0, 1) := by decide +kernel
theorem dX10_mend_11 : decode cX10_mend 11 = .ok (.aload_n 0, 1) := by decide +kernel
theorem dX10_mend_12 : decode cX10_mend 12 = .ok (.getfield 88, 3) := by decide +kernel
theorem dX10_mend_15 : decode cX10_mend 15 = .ok (.iload_n 1, 1) := by decide +kernel
theorem dX10_mend_16 : decode cX10_mend 16 = .ok (.iaload, 1) := by decide +kernel
theorem dX10_mend_17 : decode cX10_mend 17 = .ok (.iconst 1, 1) := by decide +kernel
theorem dX10_mend_18 : decode cX10_mend 18 = .ok (.isub, 1) := by decide +kernel
theorem dX10_mend_19 : decode cX10_mend 19 = .ok (.i2l, 1) := by decide +kernel
theorem dX10_mend_20 : decode cX10_mend 20 = .ok (.invokestatic 117, 3) := by decide +kernel
theorem dX10_mend_23 : decode cX10_mend 23 = .ok (.ifCond .ne 7, 3) := by decide +kernel
theorem dX10_mend_26 : decode cX10_mend 26 = .ok (.sipush (-1001), 3) := by decide +kernel
theorem dX10_mend_29 : decode cX10_mend 29 = .ok (.ireturn, 1) := by decide +kernel
theorem dX10_mend_30 : decode cX10_mend 30 = .ok (.iload_n 3, 1) := by decide +kernel
theorem dX10_mend_31 : decode cX10_mend 31 = .ok (.i2l, 1) := by decide +kernel
theorem dX10_mend_32 : decode cX10_mend 32 = .ok (.ldc2_w 374, 3) := by decide +kernel
theorem dX10_mend_35 : decode cX10_mend 35 = .ok (.ldc2_w 376, 3) := by decide +kernel
theorem dX10_mend_38 : decode cX10_mend 38 = .ok (.invokestatic 117, 3) := by decide +kernel
theorem dX10_mend_41 : decode cX10_mend 41 = .ok (.ifCond .ne 7, 3) := by decide +kernel
theorem dX10_mend_44 : decode cX10_mend 44 = .ok (.sipush (-1002), 3) := by decide +kernel
theorem dX10_mend_47 : decode cX10_mend 47 = .ok (.ireturn, 1) := by decide +kernel
theorem dX10_mend_48 : decode cX10_mend 48 = .ok (.aload_n 0, 1) := by decide +kernel
theorem dX10_mend_49 : decode cX10_mend 49 = .ok (.getfield 91, 3) := by decide +kernel
theorem dX10_mend_52 : decode cX10_mend 52 = .ok (.bipush 40, 2) := by decide +kernel
theorem dX10_mend_54 : decode cX10_mend 54 = .ok (.iload_n 1, 1) := by decide +kernel
theorem dX10_mend_55 : decode cX10_mend 55 = .ok (.imul, 1) := by decide +kernel
theorem dX10_mend_56 : decode cX10_mend 56 = .ok (.iload_n 2, 1) := by decide +kernel
theorem dX10_mend_57 : decode cX10_mend 57 = .ok (.iadd, 1) := by decide +kernel
theorem dX10_mend_58 : decode cX10_mend 58 = .ok (.iaload, 1) := by decide +kernel
theorem dX10_mend_59 : decode cX10_mend 59 = .ok (.istore 4, 2) := by decide +kernel
theorem dX10_mend_61 : decode cX10_mend 61 = .ok (.aload_n 0, 1) := by decide +kernel
theorem dX10_mend_62 : decode cX10_mend 62 = .ok (.getfield 91, 3) := by decide +kernel
theorem dX10_mend_65 : decode cX10_mend 65 = .ok (.bipush 40, 2) := by decide +kernel
theorem dX10_mend_67 : decode cX10_mend 67 = .ok (.iload_n 1, 1) := by decide +kernel
theorem dX10_mend_68 : decode cX10_mend 68 = .ok (.imul, 1) := by decide +kernel
theorem dX10_mend_69 : decode cX10_mend 69 = .ok (.iload_n 2, 1) := by decide +kernel
theorem dX10_mend_70 : decode cX10_mend 70 = .ok (.iadd, 1) := by decide +kernel
theorem dX10_mend_71 : decode cX10_mend 71 = .ok (.iload_n 3, 1) := by decide +kernel
theorem dX10_mend_72 : decode cX10_mend 72 = .ok (.iastore, 1) := by decide +kernel
theorem dX10_mend_73 : decode cX10_mend 73 = .ok (.iload 4, 2) := by decide +kernel
theorem dX10_mend_75 : decode cX10_mend 75 = .ok (.ireturn, 1) := by decide +kernel
theorem dX10_dusk_0 : decode cX10_dusk 0 = .ok (.aload_n 0, 1) := by decide +kernel
theorem dX10_dusk_1 : decode cX10_dusk 1 = .ok (.iload_n 1, 1) := by decide +kernel
theorem dX10_dusk_2 : decode cX10_dusk 2 = .ok (.invokevirtual 371, 3) := by decide +kernel
theorem dX10_dusk_5 : decode cX10_dusk 5 = .ok (.ifCond .eq 7, 3) := by decide +kernel
theorem dX10_dusk_8 : decode cX10_dusk 8 = .ok (.sipush (-1001), 3) := by decide +kernel
theorem dX10_dusk_11 : decode cX10_dusk 11 = .ok (.ireturn, 1) := by decide +kernel
theorem dX10_dusk_12 : decode cX10_dusk 12 = .ok (.aload_n 0, 1) := by decide +kernel
theorem dX10_dusk_13 : decode cX10_dusk 13 = .ok (.iload_n 1, 1) := by decide +kernel
theorem dX10_dusk_14 : decode cX10_dusk 14 = .ok (.invokevirtual 368, 3) := by decide +kernel
theorem dX10_dusk_17 : decode cX10_dusk 17 = .ok (.ifCond .eq 7, 3) := by decide +kernel
theorem dX10_dusk_20 : decode cX10_dusk 20 = .ok (.sipush (-1003), 3) := by decide +kernel
theorem dX10_dusk_23 : decode cX10_dusk 23 = .ok (.ireturn, 1) := by decide +kernel
theorem dX10_dusk_24 : decode cX10_dusk 24 = .ok (.aload_n 0, 1) := by decide +kernel
theorem dX10_dusk_25 : decode cX10_dusk 25 = .ok (.getfield 85, 3) := by decide +kernel
theorem dX10_dusk_28 : decode cX10_dusk 28 = .ok (.iload_n 1, 1) := by decide +kernel
theorem dX10_dusk_29 : decode cX10_dusk 29 = .ok (.iconst 1, 1) := by decide +kernel
theorem dX10_dusk_30 : decode cX10_dusk 30 = .ok (.bastore, 1) := by decide +kernel
theorem dX10_dusk_31 : decode cX10_dusk 31 = .ok (.iconst 1, 1) := by decide +kernel
theorem dX10_dusk_32 : decode cX10_dusk 32 = .ok (.ireturn, 1) := by decide +kernel
theorem dX10_about_0 : decode cX10_about 0 = .ok (.aload_n 0, 1) := by decide +kernel
theorem dX10_about_1 : decode cX10_about 1 = .ok (.iload_n 1, 1) := by decide +kernel
theorem dX10_about_2 : decode cX10_about 2 = .ok (.invokevirtual 371, 3) := by decide +kernel
theorem dX10_about_5 : decode cX10_about 5 = .ok (.ifCond .eq 7, 3) := by decide +kernel
theorem dX10_about_8 : decode cX10_about 8 = .ok (.sipush (-1001), 3) := by decide +kernel
theorem dX10_about_11 : decode cX10_about 11 = .ok (.ireturn, 1) := by decide +kernel
theorem dX10_about_12 : decode cX10_about 12 = .ok (.aload_n 0, 1) := by decide +kernel
theorem dX10_about_13 : decode cX10_about 13 = .ok (.iload_n 1, 1) := by decide +kernel
theorem dX10_about_14 : decode cX10_about 14 = .ok (.invokevirtual 368, 3) := by decide +kernel
theorem dX10_about_17 : decode cX10_about 17 = .ok (.istore_n 3, 1) := by decide +kernel
theorem dX10_about_18 : decode cX10_about 18 = .ok (.iload_n 2, 1) := by decide +kernel
theorem dX10_about_19 : decode cX10_about 19 = .ok (.tableswitch 90 0 7 #[45, 52, 59, 66, 73, 78, 83, 88], 45) := by decide +kernel
theorem dX10_about_64 : decode cX10_about 64 = .ok (.aload_n 0, 1) := by decide +kernel
theorem dX10_about_65 : decode cX10_about 65 = .ok (.getfield 76, 3) := by decide +kernel
theorem dX10_about_68 : decode cX10_about 68 = .ok (.iload_n 1, 1) := by decide +kernel
theorem dX10_about_69 : decode cX10_about 69 = .ok (.iaload, 1) := by decide +kernel
theorem dX10_about_70 : decode cX10_about 70 = .ok (.ireturn, 1) := by decide +kernel
theorem dX10_about_71 : decode cX10_about 71 = .ok (.aload_n 0, 1) := by decide +kernel
theorem dX10_about_72 : decode cX10_about 72 = .ok (.getfield 79, 3) := by decide +kernel
theorem dX10_about_75 : decode cX10_about 75 = .ok (.iload_n 1, 1) := by decide +kernel
theorem dX10_about_76 : decode cX10_about 76 = .ok (.iaload, 1) := by decide +kernel
theorem dX10_about_77 : decode cX10_about 77 = .ok (.ireturn, 1) := by decide +kernel
theorem dX10_about_78 : decode cX10_about 78 = .ok (.aload_n 0, 1) := by decide +kernel
theorem dX10_about_79 : decode cX10_about 79 = .ok (.getfield 82, 3) := by decide +kernel
theorem dX10_about_82 : decode cX10_about 82 = .ok (.iload_n 1, 1) := by decide +kernel
theorem dX10_about_83 : decode cX10_about 83 = .ok (.iaload, 1) := by decide +kernel
theorem dX10_about_84 : decode cX10_about 84 = .ok (.ireturn, 1) := by decide +kernel
theorem dX10_about_85 : decode cX10_about 85 = .ok (.aload_n 0, 1) := by decide +kernel
theorem dX10_about_86 : decode cX10_about 86 = .ok (.getfield 88, 3) := by decide +kernel
theorem dX10_about_89 : decode cX10_about 89 = .ok (.iload_n 1, 1) := by decide +kernel
theorem dX10_about_90 : decode cX10_about 90 = .ok (.iaload, 1) := by decide +kernel
theorem dX10_about_91 : decode cX10_about 91 = .ok (.ireturn, 1) := by decide +kernel
theorem dX10_about_92 : decode cX10_about 92 = .ok (.aload_n 0, 1) := by decide +kernel
theorem dX10_about_93 : decode cX10_about 93 = .ok (.getfield 362, 3) := by decide +kernel
theorem dX10_about_96 : decode cX10_about 96 = .ok (.ireturn, 1) := by decide +kernel
theorem dX10_about_97 : decode cX10_about 97 = .ok (.aload_n 0, 1) := by decide +kernel
theorem dX10_about_98 : decode cX10_about 98 = .ok (.getfield 356, 3) := by decide +kernel
theorem dX10_about_101 : decode cX10_about 101 = .ok (.ireturn, 1) := by decide +kernel
theorem dX10_about_102 : decode cX10_about 102 = .ok (.aload_n 0, 1) := by decide +kernel
theorem dX10_about_103 : decode cX10_about 103 = .ok (.getfield 359, 3) := by decide +kernel
theorem dX10_about_106 : decode cX10_about 106 = .ok (.ireturn, 1) := by decide +kernel
theorem dX10_about_107 : decode cX10_about 107 = .ok (.iload_n 3, 1) := by decide +kernel
theorem dX10_about_108 : decode cX10_about 108 = .ok (.ireturn, 1) := by decide +kernel
theorem dX10_about_109 : decode cX10_about 109 = .ok (.sipush (-1002), 3) := by decide +kernel
theorem dX10_about_112 : decode cX10_about 112 = .ok (.ireturn, 1) := by decide +kernel
theorem dX10_sumOf_0 : decode cX10_sumOf 0 = .ok (.iconst 0, 1) := by decide +kernel
theorem dX10_sumOf_1 : decode cX10_sumOf 1 = .ok (.istore 4, 2) := by decide +kernel
theorem dX10_sumOf_3 : decode cX10_sumOf 3 = .ok (.iconst 0, 1) := by decide +kernel
theorem dX10_sumOf_4 : decode cX10_sumOf 4 = .ok (.istore 5, 2) := by decide +kernel
theorem dX10_sumOf_6 : decode cX10_sumOf 6 = .ok (.iload 5, 2) := by decide +kernel
theorem dX10_sumOf_8 : decode cX10_sumOf 8 = .ok (.aload_n 0, 1) := by decide +kernel
theorem dX10_sumOf_9 : decode cX10_sumOf 9 = .ok (.getfield 195, 3) := by decide +kernel
theorem dX10_sumOf_12 : decode cX10_sumOf 12 = .ok (.if_icmp .ge 262, 3) := by decide +kernel
theorem dX10_sumOf_15 : decode cX10_sumOf 15 = .ok (.aload_n 0, 1) := by decide +kernel
theorem dX10_sumOf_16 : decode cX10_sumOf 16 = .ok (.getfield 76, 3) := by decide +kernel
theorem dX10_sumOf_19 : decode cX10_sumOf 19 = .ok (.iload 5, 2) := by decide +kernel
theorem dX10_sumOf_21 : decode cX10_sumOf 21 = .ok (.iaload, 1) := by decide +kernel
theorem dX10_sumOf_22 : decode cX10_sumOf 22 = .ok (.iload_n 1, 1) := by decide +kernel
theorem dX10_sumOf_23 : decode cX10_sumOf 23 = .ok (.if_icmp .eq 14, 3) := by decide +kernel
theorem dX10_sumOf_26 : decode cX10_sumOf 26 = .ok (.aload_n 0, 1) := by decide +kernel
theorem dX10_sumOf_27 : decode cX10_sumOf 27 = .ok (.getfield 79, 3) := by decide +kernel
theorem dX10_sumOf_30 : decode cX10_sumOf 30 = .ok (.iload 5, 2) := by decide +kernel
theorem dX10_sumOf_32 : decode cX10_sumOf 32 = .ok (.iaload, 1) := by decide +kernel
theorem dX10_sumOf_33 : decode cX10_sumOf 33 = .ok (.iload_n 1, 1) := by decide +kernel
theorem dX10_sumOf_34 : decode cX10_sumOf 34 = .ok (.if_icmp .ne 7, 3) := by decide +kernel
theorem dX10_sumOf_37 : decode cX10_sumOf 37 = .ok (.iconst 1, 1) := by decide +kernel
theorem dX10_sumOf_38 : decode cX10_sumOf 38 = .ok (.goto 4, 3) := by decide +kernel
theorem dX10_sumOf_41 : decode cX10_sumOf 41 = .ok (.iconst 0, 1) := by decide +kernel
theorem dX10_sumOf_42 : decode cX10_sumOf 42 = .ok (.istore 6, 2) := by decide +kernel
theorem dX10_sumOf_44 : decode cX10_sumOf 44 = .ok (.aload_n 0, 1) := by decide +kernel
theorem dX10_sumOf_45 : decode cX10_sumOf 45 = .ok (.getfield 76, 3) := by decide +kernel
theorem dX10_sumOf_48 : decode cX10_sumOf 48 = .ok (.iload 5, 2) := by decide +kernel
theorem dX10_sumOf_50 : decode cX10_sumOf 50 = .ok (.iaload, 1) := by decide +kernel
theorem dX10_sumOf_51 : decode cX10_sumOf 51 = .ok (.iload_n 1, 1) := by decide +kernel
theorem dX10_sumOf_52 : decode cX10_sumOf 52 = .ok (.if_icmp .ne 13, 3) := by decide +kernel
theorem dX10_sumOf_55 : decode cX10_sumOf 55 = .ok (.aload_n 0, 1) := by decide +kernel
theorem dX10_sumOf_56 : decode cX10_sumOf 56 = .ok (.getfield 79, 3) := by decide +kernel
theorem dX10_sumOf_59 : decode cX10_sumOf 59 = .ok (.iload 5, 2) := by decide +kernel
theorem dX10_sumOf_61 : decode cX10_sumOf 61 = .ok (.iaload, 1) := by decide +kernel
theorem dX10_sumOf_62 : decode cX10_sumOf 62 = .ok (.goto 10, 3) := by decide +kernel
theorem dX10_sumOf_65 : decode cX10_sumOf 65 = .ok (.aload_n 0, 1) := by decide +kernel
theorem dX10_sumOf_66 : decode cX10_sumOf 66 = .ok (.getfield 76, 3) := by decide +kernel
theorem dX10_sumOf_69 : decode cX10_sumOf 69 = .ok (.iload 5, 2) := by decide +kernel
theorem dX10_sumOf_71 : decode cX10_sumOf 71 = .ok (.iaload, 1) := by decide +kernel
theorem dX10_sumOf_72 : decode cX10_sumOf 72 = .ok (.istore 7, 2) := by decide +kernel
theorem dX10_sumOf_74 : decode cX10_sumOf 74 = .ok (.iload 6, 2) := by decide +kernel
theorem dX10_sumOf_76 : decode cX10_sumOf 76 = .ok (.ifCond .eq 192, 3) := by decide +kernel
theorem dX10_sumOf_79 : decode cX10_sumOf 79 = .ok (.iload_n 2, 1) := by decide +kernel
theorem dX10_sumOf_80 : decode cX10_sumOf 80 = .ok (.iload 7, 2) := by decide +kernel
theorem dX10_sumOf_82 : decode cX10_sumOf 82 = .ok (.ishr, 1) := by decide +kernel
theorem dX10_sumOf_83 : decode cX10_sumOf 83 = .ok (.iconst 1, 1) := by decide +kernel
theorem dX10_sumOf_84 : decode cX10_sumOf 84 = .ok (.iand, 1) := by decide +kernel
theorem dX10_sumOf_85 : decode cX10_sumOf 85 = .ok (.iconst 1, 1) := by decide +kernel
theorem dX10_sumOf_86 : decode cX10_sumOf 86 = .ok (.if_icmp .ne 182, 3) := by decide +kernel
theorem dX10_sumOf_89 : decode cX10_sumOf 89 = .ok (.aload_n 0, 1) := by decide +kernel
theorem dX10_sumOf_90 : decode cX10_sumOf 90 = .ok (.iload 5, 2) := by decide +kernel
theorem dX10_sumOf_92 : decode cX10_sumOf 92 = .ok (.invokevirtual 368, 3) := by decide +kernel
theorem dX10_sumOf_95 : decode cX10_sumOf 95 = .ok (.istore 8, 2) := by decide +kernel
theorem dX10_sumOf_97 : decode cX10_sumOf 97 = .ok (.aload_n 0, 1) := by decide +kernel
theorem dX10_sumOf_98 : decode cX10_sumOf 98 = .ok (.getfield 76, 3) := by decide +kernel
theorem dX10_sumOf_101 : decode cX10_sumOf 101 = .ok (.iload 5, 2) := by decide +kernel
theorem dX10_sumOf_103 : decode cX10_sumOf 103 = .ok (.iaload, 1) := by decide +kernel
theorem dX10_sumOf_104 : decode cX10_sumOf 104 = .ok (.iload_n 1, 1) := by decide +kernel
theorem dX10_sumOf_105 : decode cX10_sumOf 105 = .ok (.if_icmp .ne 7, 3) := by decide +kernel
theorem dX10_sumOf_108 : decode cX10_sumOf 108 = .ok (.iconst 1, 1) := by decide +kernel
theorem dX10_sumOf_109 : decode cX10_sumOf 109 = .ok (.goto 4, 3) := by decide +kernel
theorem dX10_sumOf_112 : decode cX10_sumOf 112 = .ok (.iconst 0, 1) := by decide +kernel
theorem dX10_sumOf_113 : decode cX10_sumOf 113 = .ok (.istore 9, 2) := by decide +kernel
theorem dX10_sumOf_115 : decode cX10_sumOf 115 = .ok (.iload 8, 2) := by decide +kernel
theorem dX10_sumOf_117 : decode cX10_sumOf 117 = .ok (.iload 9, 2) := by decide +kernel
theorem dX10_sumOf_119 : decode cX10_sumOf 119 = .ok (.ifCond .eq 7, 3) := by decide +kernel
theorem dX10_sumOf_122 : decode cX10_sumOf 122 = .ok (.iconst 1, 1) := by decide +kernel
theorem dX10_sumOf_123 : decode cX10_sumOf 123 = .ok (.goto 4, 3) := by decide +kernel
theorem dX10_sumOf_126 : decode cX10_sumOf 126 = .ok (.iconst 2, 1) := by decide +kernel
theorem dX10_sumOf_127 : decode cX10_sumOf 127 = .ok (.if_icmp .ne 7, 3) := by decide +kernel
theorem dX10_sumOf_130 : decode cX10_sumOf 130 = .ok (.iconst 1, 1) := by decide +kernel
theorem dX10_sumOf_131 : decode cX10_sumOf 131 = .ok (.goto 4, 3) := by decide +kernel
theorem dX10_sumOf_134 : decode cX10_sumOf 134 = .ok (.iconst 0, 1) := by decide +kernel
theorem dX10_sumOf_135 : decode cX10_sumOf 135 = .ok (.istore 10, 2) := by decide +kernel
theorem dX10_sumOf_137 : decode cX10_sumOf 137 = .ok (.iload 8, 2) := by decide +kernel
theorem dX10_sumOf_139 : decode cX10_sumOf 139 = .ok (.iload 9, 2) := by decide +kernel
theorem dX10_sumOf_141 : decode cX10_sumOf 141 = .ok (.ifCond .eq 7, 3) := by decide +kernel
theorem dX10_sumOf_144 : decode cX10_sumOf 144 = .ok (.iconst 2, 1) := by decide +kernel
theorem dX10_sumOf_145 : decode cX10_sumOf 145 = .ok (.goto 4, 3) := by decide +kernel
theorem dX10_sumOf_148 : decode cX10_sumOf 148 = .ok (.iconst 1, 1) := by decide +kernel
theorem dX10_sumOf_149 : decode cX10_sumOf 149 = .ok (.if_icmp .ne 7, 3) := by decide +kernel
theorem dX10_sumOf_152 : decode cX10_sumOf 152 = .ok (.iconst 1, 1) := by decide +kernel
theorem dX10_sumOf_153 : decode cX10_sumOf 153 = .ok (.goto 4, 3) := by decide +kernel
theorem dX10_sumOf_156 : decode cX10_sumOf 156 = .ok (.iconst 0, 1) := by decide +kernel
theorem dX10_sumOf_157 : decode cX10_sumOf 157 = .ok (.istore 11, 2) := by decide +kernel
theorem dX10_sumOf_159 : decode cX10_sumOf 159 = .ok (.iload 9, 2) := by decide +kernel
theorem dX10_sumOf_161 : decode cX10_sumOf 161 = .ok (.ifCond .eq 10, 3) := by decide +kernel
theorem dX10_sumOf_164 : decode cX10_sumOf 164 = .ok (.aload_n 0, 1) := by decide +kernel
theorem dX10_sumOf_165 : decode cX10_sumOf 165 = .ok (.getfield 356, 3) := by decide +kernel
theorem dX10_sumOf_168 : decode cX10_sumOf 168 = .ok (.goto 7, 3) := by decide +kernel
theorem dX10_sumOf_171 : decode cX10_sumOf 171 = .ok (.aload_n 0, 1) := by decide +kernel
theorem dX10_sumOf_172 : decode cX10_sumOf 172 = .ok (.getfield 359, 3) := by decide +kernel
theorem dX10_sumOf_175 : decode cX10_sumOf 175 = .ok (.istore 12, 2) := by decide +kernel
theorem dX10_sumOf_177 : decode cX10_sumOf 177 = .ok (.iload 9, 2) := by decide +kernel
theorem dX10_sumOf_179 : decode cX10_sumOf 179 = .ok (.ifCond .eq 10, 3) := by decide +kernel
theorem dX10_sumOf_182 : decode cX10_sumOf 182 = .ok (.aload_n 0, 1) := by decide +kernel
theorem dX10_sumOf_183 : decode cX10_sumOf 183 = .ok (.getfield 359, 3) := by decide +kernel
theorem dX10_sumOf_186 : decode cX10_sumOf 186 = .ok (.goto 7, 3) := by decide +kernel
theorem dX10_sumOf_189 : decode cX10_sumOf 189 = .ok (.aload_n 0, 1) := by decide +kernel
theorem dX10_sumOf_190 : decode cX10_sumOf 190 = .ok (.getfield 356, 3) := by decide +kernel
theorem dX10_sumOf_193 : decode cX10_sumOf 193 = .ok (.istore 13, 2) := by decide +kernel
theorem dX10_sumOf_195 : decode cX10_sumOf 195 = .ok (.iload 4, 2) := by decide +kernel
theorem dX10_sumOf_197 : decode cX10_sumOf 197 = .ok (.iload_n 3, 1) := by decide +kernel
theorem dX10_sumOf_198 : decode cX10_sumOf 198 = .ok (.ifCond .ne 7, 3) := by decide +kernel
theorem dX10_sumOf_201 : decode cX10_sumOf 201 = .ok (.iconst 1, 1) := by decide +kernel
theorem dX10_sumOf_202 : decode cX10_sumOf 202 = .ok (.goto 63, 3) := by decide +kernel
theorem dX10_sumOf_205 : decode cX10_sumOf 205 = .ok (.iload_n 3, 1) := by decide +kernel
theorem dX10_sumOf_206 : decode cX10_sumOf 206 = .ok (.iconst 1, 1) := by decide +kernel
theorem dX10_sumOf_207 : decode cX10_sumOf 207 = .ok (.if_icmp .ne 11, 3) := by decide +kernel
theorem dX10_sumOf_210 : decode cX10_sumOf 210 = .ok (.iload 10, 2) := by decide +kernel
theorem dX10_sumOf_212 : decode cX10_sumOf 212 = .ok (.invokestatic 155, 3) := by decide +kernel
theorem dX10_sumOf_215 : decode cX10_sumOf 215 = .ok (.goto 50, 3) := by decide +kernel
theorem dX10_sumOf_218 : decode cX10_sumOf 218 = .ok (.iload_n 3, 1) := by decide +kernel
theorem dX10_sumOf_219 : decode cX10_sumOf 219 = .ok (.iconst 2, 1) := by decide +kernel
theorem dX10_sumOf_220 : decode cX10_sumOf 220 = .ok (.if_icmp .ne 20, 3) := by decide +kernel
theorem dX10_sumOf_223 : decode cX10_sumOf 223 = .ok (.iload 8, 2) := by decide +kernel
theorem dX10_sumOf_225 : decode cX10_sumOf 225 = .ok (.iconst 3, 1) := by decide +kernel
theorem dX10_sumOf_226 : decode cX10_sumOf 226 = .ok (.if_icmp .ne 7, 3) := by decide +kernel
theorem dX10_sumOf_229 : decode cX10_sumOf 229 = .ok (.iconst 1, 1) := by decide +kernel
theorem dX10_sumOf_230 : decode cX10_sumOf 230 = .ok (.goto 4, 3) := by decide +kernel
theorem dX10_sumOf_233 : decode cX10_sumOf 233 = .ok (.iconst 0, 1) := by decide +kernel
theorem dX10_sumOf_234 : decode cX10_sumOf 234 = .ok (.invokestatic 155, 3) := by decide +kernel
theorem dX10_sumOf_237 : decode cX10_sumOf 237 = .ok (.goto 28, 3) := by decide +kernel
theorem dX10_sumOf_240 : decode cX10_sumOf 240 = .ok (.iload_n 3, 1) := by decide +kernel
theorem dX10_sumOf_241 : decode cX10_sumOf 241 = .ok (.iconst 3, 1) := by decide +kernel
theorem dX10_sumOf_242 : decode cX10_sumOf 242 = .ok (.if_icmp .ne 11, 3) := by decide +kernel
theorem dX10_sumOf_245 : decode cX10_sumOf 245 = .ok (.iload 11, 2) := by decide +kernel
theorem dX10_sumOf_247 : decode cX10_sumOf 247 = .ok (.invokestatic 155, 3) := by decide +kernel
theorem dX10_sumOf_250 : decode cX10_sumOf 250 = .ok (.goto 15, 3) := by decide +kernel
theorem dX10_sumOf_253 : decode cX10_sumOf 253 = .ok (.iload_n 3, 1) := by decide +kernel
theorem dX10_sumOf_254 : decode cX10_sumOf 254 = .ok (.iconst 4, 1) := by decide +kernel
theorem dX10_sumOf_255 : decode cX10_sumOf 255 = .ok (.if_icmp .ne 8, 3) := by decide +kernel
theorem dX10_sumOf_258 : decode cX10_sumOf 258 = .ok (.iload 12, 2) := by decide +kernel
theorem dX10_sumOf_260 : decode cX10_sumOf 260 = .ok (.goto 5, 3) := by decide +kernel
theorem dX10_sumOf_263 : decode cX10_sumOf 263 = .ok (.iload 13, 2) := by decide +kernel
theorem dX10_sumOf_265 : decode cX10_sumOf 265 = .ok (.iadd, 1) := by decide +kernel
theorem dX10_sumOf_266 : decode cX10_sumOf 266 = .ok (.istore 4, 2) := by decide +kernel
theorem dX10_sumOf_268 : decode cX10_sumOf 268 = .ok (.iinc 5 1, 3) := by decide +kernel
theorem dX10_sumOf_271 : decode cX10_sumOf 271 = .ok (.goto (-265), 3) := by decide +kernel
theorem dX10_sumOf_274 : decode cX10_sumOf 274 = .ok (.iload 4, 2) := by decide +kernel
theorem dX10_sumOf_276 : decode cX10_sumOf 276 = .ok (.ireturn, 1) := by decide +kernel
theorem dX10_tableOf_0 : decode cX10_tableOf 0 = .ok (.iconst 2, 1) := by decide +kernel
theorem dX10_tableOf_1 : decode cX10_tableOf 1 = .ok (.aload_n 0, 1) := by decide +kernel
theorem dX10_tableOf_2 : decode cX10_tableOf 2 = .ok (.iload_n 1, 1) := by decide +kernel
theorem dX10_tableOf_3 : decode cX10_tableOf 3 = .ok (.iload_n 2, 1) := by decide +kernel
theorem dX10_tableOf_4 : decode cX10_tableOf 4 = .ok (.iconst 1, 1) := by decide +kernel
theorem dX10_tableOf_5 : decode cX10_tableOf 5 = .ok (.invokevirtual 378, 3) := by decide +kernel
theorem dX10_tableOf_8 : decode cX10_tableOf 8 = .ok (.imul, 1) := by decide +kernel
theorem dX10_tableOf_9 : decode cX10_tableOf 9 = .ok (.aload_n 0, 1) := by decide +kernel
theorem dX10_tableOf_10 : decode cX10_tableOf 10 = .ok (.iload_n 1, 1) := by decide +kernel
theorem dX10_tableOf_11 : decode cX10_tableOf 11 = .ok (.iload_n 2, 1) := by decide +kernel
theorem dX10_tableOf_12 : decode cX10_tableOf 12 = .ok (.iconst 2, 1) := by decide +kernel
theorem dX10_tableOf_13 : decode cX10_tableOf 13 = .ok (.invokevirtual 378, 3) := by decide +kernel
theorem dX10_tableOf_16 : decode cX10_tableOf 16 = .ok (.iadd, 1) := by decide +kernel
theorem dX10_tableOf_17 : decode cX10_tableOf 17 = .ok (.ireturn, 1) := by decide +kernel
theorem dX10_valueOf__0 : decode cX10_valueOf_ 0 = .ok (.iload_n 2, 1) := by decide +kernel
theorem dX10_valueOf__1 : decode cX10_valueOf_ 1 = .ok (.tableswitch 75 0 3 #[31, 39, 48, 66], 31) := by decide +kernel
theorem dX10_valueOf__32 : decode cX10_valueOf_ 32 = .ok (.aload_n 0, 1) := by decide +kernel
theorem dX10_valueOf__33 : decode cX10_valueOf_ 33 = .ok (.iload_n 1, 1) := by decide +kernel
theorem dX10_valueOf__34 : decode cX10_valueOf_ 34 = .ok (.bipush 63, 2) := by decide +kernel
theorem dX10_valueOf__36 : decode cX10_valueOf_ 36 = .ok (.invokevirtual 382, 3) := by decide +kernel
theorem dX10_valueOf__39 : decode cX10_valueOf_ 39 = .ok (.ireturn, 1) := by decide +kernel
theorem dX10_valueOf__40 : decode cX10_valueOf_ 40 = .ok (.aload_n 0, 1) := by decide +kernel
theorem dX10_valueOf__41 : decode cX10_valueOf_ 41 = .ok (.iload_n 1, 1) := by decide +kernel
theorem dX10_valueOf__42 : decode cX10_valueOf_ 42 = .ok (.bipush 63, 2) := by decide +kernel
theorem dX10_valueOf__44 : decode cX10_valueOf_ 44 = .ok (.iconst 1, 1) := by decide +kernel
theorem dX10_valueOf__45 : decode cX10_valueOf_ 45 = .ok (.invokevirtual 378, 3) := by decide +kernel
theorem dX10_valueOf__48 : decode cX10_valueOf_ 48 = .ok (.ireturn, 1) := by decide +kernel
theorem dX10_valueOf__49 : decode cX10_valueOf_ 49 = .ok (.aload_n 0, 1) := by decide +kernel
theorem dX10_valueOf__50 : decode cX10_valueOf_ 50 = .ok (.iload_n 1, 1) := by decide +kernel
theorem dX10_valueOf__51 : decode cX10_valueOf_ 51 = .ok (.bipush 63, 2) := by decide +kernel
theorem dX10_valueOf__53 : decode cX10_valueOf_ 53 = .ok (.iconst 4, 1) := by decide +kernel
theorem dX10_valueOf__54 : decode cX10_valueOf_ 54 = .ok (.invokevirtual 378, 3) := by decide +kernel
theorem dX10_valueOf__57 : decode cX10_valueOf_ 57 = .ok (.aload_n 0, 1) := by decide +kernel
theorem dX10_valueOf__58 : decode cX10_valueOf_ 58 = .ok (.iload_n 1, 1) := by decide +kernel
theorem dX10_valueOf__59 : decode cX10_valueOf_ 59 = .ok (.bipush 63, 2) := by decide +kernel
theorem dX10_valueOf__61 : decode cX10_valueOf_ 61 = .ok (.iconst 5, 1) := by decide +kernel
theorem dX10_valueOf__62 : decode cX10_valueOf_ 62 = .ok (.invokevirtual 378, 3) := by decide +kernel
theorem dX10_valueOf__65 : decode cX10_valueOf_ 65 = .ok (.isub, 1) := by decide +kernel
theorem dX10_valueOf__66 : decode cX10_valueOf_ 66 = .ok (.ireturn, 1) := by decide +kernel
theorem dX10_valueOf__67 : decode cX10_valueOf_ 67 = .ok (.aload_n 0, 1) := by decide +kernel
theorem dX10_valueOf__68 : decode cX10_valueOf_ 68 = .ok (.iload_n 1, 1) := by decide +kernel
theorem dX10_valueOf__69 : decode cX10_valueOf_ 69 = .ok (.bipush 63, 2) := by decide +kernel
theorem dX10_valueOf__71 : decode cX10_valueOf_ 71 = .ok (.iconst 4, 1) := by decide +kernel
theorem dX10_valueOf__72 : decode cX10_valueOf_ 72 = .ok (.invokevirtual 378, 3) := by decide +kernel
theorem dX10_valueOf__75 : decode cX10_valueOf_ 75 = .ok (.ireturn, 1) := by decide +kernel
theorem dX10_valueOf__76 : decode cX10_valueOf_ 76 = .ok (.aload_n 0, 1) := by decide +kernel
theorem dX10_valueOf__77 : decode cX10_valueOf_ 77 = .ok (.iload_n 1, 1) := by decide +kernel
theorem dX10_valueOf__78 : decode cX10_valueOf_ 78 = .ok (.iload_n 3, 1) := by decide +kernel
theorem dX10_valueOf__79 : decode cX10_valueOf_ 79 = .ok (.invokevirtual 382, 3) := by decide +kernel
theorem dX10_valueOf__82 : decode cX10_valueOf_ 82 = .ok (.ireturn, 1) := by decide +kernel
theorem dX10_aheadOf_0 : decode cX10_aheadOf 0 = .ok (.bipush 63, 2) := by decide +kernel
theorem dX10_aheadOf_2 : decode cX10_aheadOf 2 = .ok (.istore_n 2, 1) := by decide +kernel
theorem dX10_aheadOf_3 : decode cX10_aheadOf 3 = .ok (.iconst 0, 1) := by decide +kernel
theorem dX10_aheadOf_4 : decode cX10_aheadOf 4 = .ok (.istore_n 3, 1) := by decide +kernel
theorem dX10_aheadOf_5 : decode cX10_aheadOf 5 = .ok (.iconst 0, 1) := by decide +kernel
theorem dX10_aheadOf_6 : decode cX10_aheadOf 6 = .ok (.istore 4, 2) := by decide +kernel
theorem dX10_aheadOf_8 : decode cX10_aheadOf 8 = .ok (.iload 4, 2) := by decide +kernel
theorem dX10_aheadOf_10 : decode cX10_aheadOf 10 = .ok (.aload_n 0, 1) := by decide +kernel
theorem dX10_aheadOf_11 : decode cX10_aheadOf 11 = .ok (.getfield 111, 3) := by decide +kernel
theorem dX10_aheadOf_14 : decode cX10_aheadOf 14 = .ok (.if_icmp .ge 113, 3) := by decide +kernel
theorem dX10_aheadOf_17 : decode cX10_aheadOf 17 = .ok (.aload_n 0, 1) := by decide +kernel
theorem dX10_aheadOf_18 : decode cX10_aheadOf 18 = .ok (.iload_n 1, 1) := by decide +kernel
theorem dX10_aheadOf_19 : decode cX10_aheadOf 19 = .ok (.aload_n 0, 1) := by decide +kernel
theorem dX10_aheadOf_20 : decode cX10_aheadOf 20 = .ok (.getfield 94, 3) := by decide +kernel
theorem dX10_aheadOf_23 : decode cX10_aheadOf 23 = .ok (.iload 4, 2) := by decide +kernel
theorem dX10_aheadOf_25 : decode cX10_aheadOf 25 = .ok (.iaload, 1) := by decide +kernel
theorem dX10_aheadOf_26 : decode cX10_aheadOf 26 = .ok (.iload_n 2, 1) := by decide +kernel
theorem dX10_aheadOf_27 : decode cX10_aheadOf 27 = .ok (.invokevirtual 385, 3) := by decide +kernel
theorem dX10_aheadOf_30 : decode cX10_aheadOf 30 = .ok (.istore 5, 2) := by decide +kernel
theorem dX10_aheadOf_32 : decode cX10_aheadOf 32 = .ok (.iconst 0, 1) := by decide +kernel
theorem dX10_aheadOf_33 : decode cX10_aheadOf 33 = .ok (.istore 6, 2) := by decide +kernel
theorem dX10_aheadOf_35 : decode cX10_aheadOf 35 = .ok (.iconst 0, 1) := by decide +kernel
theorem dX10_aheadOf_36 : decode cX10_aheadOf 36 = .ok (.istore 7, 2) := by decide +kernel
theorem dX10_aheadOf_38 : decode cX10_aheadOf 38 = .ok (.iload 7, 2) := by decide +kernel
theorem dX10_aheadOf_40 : decode cX10_aheadOf 40 = .ok (.bipush 6, 2) := by decide +kernel
theorem dX10_aheadOf_42 : decode cX10_aheadOf 42 = .ok (.if_icmp .ge 76, 3) := by decide +kernel
theorem dX10_aheadOf_45 : decode cX10_aheadOf 45 = .ok (.iload_n 2, 1) := by decide +kernel
theorem dX10_aheadOf_46 : decode cX10_aheadOf 46 = .ok (.iload 7, 2) := by decide +kernel
theorem dX10_aheadOf_48 : decode cX10_aheadOf 48 = .ok (.ishr, 1) := by decide +kernel
theorem dX10_aheadOf_49 : decode cX10_aheadOf 49 = .ok (.iconst 1, 1) := by decide +kernel
theorem dX10_aheadOf_50 : decode cX10_aheadOf 50 = .ok (.iand, 1) := by decide +kernel
theorem dX10_aheadOf_51 : decode cX10_aheadOf 51 = .ok (.iconst 1, 1) := by decide +kernel
theorem dX10_aheadOf_52 : decode cX10_aheadOf 52 = .ok (.if_icmp .ne 60, 3) := by decide +kernel
theorem dX10_aheadOf_55 : decode cX10_aheadOf 55 = .ok (.aload_n 0, 1) := by decide +kernel
theorem dX10_aheadOf_56 : decode cX10_aheadOf 56 = .ok (.iload 7, 2) := by decide +kernel
theorem dX10_aheadOf_58 : decode cX10_aheadOf 58 = .ok (.aload_n 0, 1) := by decide +kernel
theorem dX10_aheadOf_59 : decode cX10_aheadOf 59 = .ok (.getfield 94, 3) := by decide +kernel
theorem dX10_aheadOf_62 : decode cX10_aheadOf 62 = .ok (.iload 4, 2) := by decide +kernel
theorem dX10_aheadOf_64 : decode cX10_aheadOf 64 = .ok (.iaload, 1) := by decide +kernel
theorem dX10_aheadOf_65 : decode cX10_aheadOf 65 = .ok (.iload_n 2, 1) := by decide +kernel
theorem dX10_aheadOf_66 : decode cX10_aheadOf 66 = .ok (.invokevirtual 385, 3) := by decide +kernel
theorem dX10_aheadOf_69 : decode cX10_aheadOf 69 = .ok (.istore 8, 2) := by decide +kernel
theorem dX10_aheadOf_71 : decode cX10_aheadOf 71 = .ok (.iload_n 3, 1) := by decide +kernel
theorem dX10_aheadOf_72 : decode cX10_aheadOf 72 = .ok (.iload 8, 2) := by decide +kernel
theorem dX10_aheadOf_74 : decode cX10_aheadOf 74 = .ok (.iload 5, 2) := by decide +kernel
theorem dX10_aheadOf_76 : decode cX10_aheadOf 76 = .ok (.if_icmp .le 7, 3) := by decide +kernel
theorem dX10_aheadOf_79 : decode cX10_aheadOf 79 = .ok (.iconst 1, 1) := by decide +kernel
theorem dX10_aheadOf_80 : decode cX10_aheadOf 80 = .ok (.goto 4, 3) := by decide +kernel
theorem dX10_aheadOf_83 : decode cX10_aheadOf 83 = .ok (.iconst 0, 1) := by decide +kernel
theorem dX10_aheadOf_84 : decode cX10_aheadOf 84 = .ok (.invokestatic 155, 3) := by decide +kernel
theorem dX10_aheadOf_87 : decode cX10_aheadOf 87 = .ok (.iadd, 1) := by decide +kernel
theorem dX10_aheadOf_88 : decode cX10_aheadOf 88 = .ok (.istore_n 3, 1) := by decide +kernel
theorem dX10_aheadOf_89 : decode cX10_aheadOf 89 = .ok (.iload 6, 2) := by decide +kernel
theorem dX10_aheadOf_91 : decode cX10_aheadOf 91 = .ok (.iload 8, 2) := by decide +kernel
theorem dX10_aheadOf_93 : decode cX10_aheadOf 93 = .ok (.iload 5, 2) := by decide +kernel
theorem dX10_aheadOf_95 : decode cX10_aheadOf 95 = .ok (.if_icmp .ne 7, 3) := by decide +kernel
theorem dX10_aheadOf_98 : decode cX10_aheadOf 98 = .ok (.iconst 1, 1) := by decide +kernel
theorem dX10_aheadOf_99 : decode cX10_aheadOf 99 = .ok (.goto 4, 3) := by decide +kernel
theorem dX10_aheadOf_102 : decode cX10_aheadOf 102 = .ok (.iconst 0, 1) := by decide +kernel
theorem dX10_aheadOf_103 : decode cX10_aheadOf 103 = .ok (.invokestatic 155, 3) := by decide +kernel
theorem dX10_aheadOf_106 : decode cX10_aheadOf 106 = .ok (.iload 7, 2) := by decide +kernel
theorem dX10_aheadOf_108 : decode cX10_aheadOf 108 = .ok (.ishl, 1) := by decide +kernel
theorem dX10_aheadOf_109 : decode cX10_aheadOf 109 = .ok (.ior, 1) := by decide +kernel
theorem dX10_aheadOf_110 : decode cX10_aheadOf 110 = .ok (.istore 6, 2) := by decide +kernel
theorem dX10_aheadOf_112 : decode cX10_aheadOf 112 = .ok (.iinc 7 1, 3) := by decide +kernel
theorem dX10_aheadOf_115 : decode cX10_aheadOf 115 = .ok (.goto (-77), 3) := by decide +kernel
theorem dX10_aheadOf_118 : decode cX10_aheadOf 118 = .ok (.iload 6, 2) := by decide +kernel
theorem dX10_aheadOf_120 : decode cX10_aheadOf 120 = .ok (.istore_n 2, 1) := by decide +kernel
theorem dX10_aheadOf_121 : decode cX10_aheadOf 121 = .ok (.iinc 4 1, 3) := by decide +kernel
theorem dX10_aheadOf_124 : decode cX10_aheadOf 124 = .ok (.goto (-116), 3) := by decide +kernel
theorem dX10_aheadOf_127 : decode cX10_aheadOf 127 = .ok (.iload_n 3, 1) := by decide +kernel
theorem dX10_aheadOf_128 : decode cX10_aheadOf 128 = .ok (.ireturn, 1) := by decide +kernel
theorem dX10_standing_0 : decode cX10_standing 0 = .ok (.iload_n 1, 1) := by decide +kernel
theorem dX10_standing_1 : decode cX10_standing 1 = .ok (.invokestatic 277, 3) := by decide +kernel
theorem dX10_standing_4 : decode cX10_standing 4 = .ok (.ifCond .ne 7, 3) := by decide +kernel
theorem dX10_standing_7 : decode cX10_standing 7 = .ok (.sipush (-1001), 3) := by decide +kernel
theorem dX10_standing_10 : decode cX10_standing 10 = .ok (.ireturn, 1) := by decide +kernel
theorem dX10_standing_11 : decode cX10_standing 11 = .ok (.iload_n 2, 1) := by decide +kernel
theorem dX10_standing_12 : decode cX10_standing 12 = .ok (.i2l, 1) := by decide +kernel
theorem dX10_standing_13 : decode cX10_standing 13 = .ok (.lconst 0, 1) := by decide +kernel
theorem dX10_standing_14 : decode cX10_standing 14 = .ok (.ldc2_w 283, 3) := by decide +kernel
theorem dX10_standing_17 : decode cX10_standing 17 = .ok (.invokestatic 117, 3) := by decide +kernel
theorem dX10_standing_20 : decode cX10_standing 20 = .ok (.ifCond .ne 7, 3) := by decide +kernel
theorem dX10_standing_23 : decode cX10_standing 23 = .ok (.sipush (-1002), 3) := by decide +kernel
theorem dX10_standing_26 : decode cX10_standing 26 = .ok (.ireturn, 1) := by decide +kernel
theorem dX10_standing_27 : decode cX10_standing 27 = .ok (.iload_n 2, 1) := by decide +kernel
theorem dX10_standing_28 : decode cX10_standing 28 = .ok (.bipush 6, 2) := by decide +kernel
theorem dX10_standing_30 : decode cX10_standing 30 = .ok (.if_icmp .ge 14, 3) := by decide +kernel
theorem dX10_standing_33 : decode cX10_standing 33 = .ok (.aload_n 0, 1) := by decide +kernel
theorem dX10_standing_34 : decode cX10_standing 34 = .ok (.iload_n 1, 1) := by decide +kernel
theorem dX10_standing_35 : decode cX10_standing 35 = .ok (.bipush 63, 2) := by decide +kernel
theorem dX10_standing_37 : decode cX10_standing 37 = .ok (.iload_n 2, 1) := by decide +kernel
theorem dX10_standing_38 : decode cX10_standing 38 = .ok (.invokevirtual 378, 3) := by decide +kernel
theorem dX10_standing_41 : decode cX10_standing 41 = .ok (.goto 26, 3) := by decide +kernel
theorem dX10_standing_44 : decode cX10_standing 44 = .ok (.iload_n 2, 1) := by decide +kernel
theorem dX10_standing_45 : decode cX10_standing 45 = .ok (.bipush 6, 2) := by decide +kernel
theorem dX10_standing_47 : decode cX10_standing 47 = .ok (.if_icmp .ne 13, 3) := by decide +kernel
theorem dX10_standing_50 : decode cX10_standing 50 = .ok (.aload_n 0, 1) := by decide +kernel
theorem dX10_standing_51 : decode cX10_standing 51 = .ok (.iload_n 1, 1) := by decide +kernel
theorem dX10_standing_52 : decode cX10_standing 52 = .ok (.bipush 63, 2) := by decide +kernel
theorem dX10_standing_54 : decode cX10_standing 54 = .ok (.invokevirtual 382, 3) := by decide +kernel
theorem dX10_standing_57 : decode cX10_standing 57 = .ok (.goto 10, 3) := by decide +kernel
theorem dX10_standing_60 : decode cX10_standing 60 = .ok (.iconst 1, 1) := by decide +kernel
theorem dX10_standing_61 : decode cX10_standing 61 = .ok (.aload_n 0, 1) := by decide +kernel
theorem dX10_standing_62 : decode cX10_standing 62 = .ok (.iload_n 1, 1) := by decide +kernel
theorem dX10_standing_63 : decode cX10_standing 63 = .ok (.invokevirtual 387, 3) := by decide +kernel
theorem dX10_standing_66 : decode cX10_standing 66 = .ok (.iadd, 1) := by decide +kernel
theorem dX10_standing_67 : decode cX10_standing 67 = .ok (.ireturn, 1) := by decide +kernel
theorem dX10_orderWord_0 : decode cX10_orderWord 0 = .ok (.aload_n 0, 1) := by decide +kernel
theorem dX10_orderWord_1 : decode cX10_orderWord 1 = .ok (.bipush 20, 2) := by decide +kernel
theorem dX10_orderWord_3 : decode cX10_orderWord 3 = .ok (.iconst 1, 1) := by decide +kernel
theorem dX10_orderWord_4 : decode cX10_orderWord 4 = .ok (.iconst 2, 1) := by decide +kernel
theorem dX10_orderWord_5 : decode cX10_orderWord 5 = .ok (.bipush 12, 2) := by decide +kernel
theorem dX10_orderWord_7 : decode cX10_orderWord 7 = .ok (.iconst 5, 1) := by decide +kernel
theorem dX10_orderWord_8 : decode cX10_orderWord 8 = .ok (.invokestatic 232, 3) := by decide +kernel
theorem dX10_orderWord_11 : decode cX10_orderWord 11 = .ok (.iconst 5, 1) := by decide +kernel
theorem dX10_orderWord_12 : decode cX10_orderWord 12 = .ok (.invokevirtual 238, 3) := by decide +kernel
theorem dX10_orderWord_15 : decode cX10_orderWord 15 = .ok (.ifCond .eq 5, 3) := by decide +kernel
theorem dX10_orderWord_18 : decode cX10_orderWord 18 = .ok (.iconst 0, 1) := by decide +kernel
theorem dX10_orderWord_19 : decode cX10_orderWord 19 = .ok (.ireturn, 1) := by decide +kernel
theorem dX10_orderWord_20 : decode cX10_orderWord 20 = .ok (.aload_n 0, 1) := by decide +kernel
theorem dX10_orderWord_21 : decode cX10_orderWord 21 = .ok (.iconst 0, 1) := by decide +kernel
theorem dX10_orderWord_22 : decode cX10_orderWord 22 = .ok (.iconst 0, 1) := by decide +kernel
theorem dX10_orderWord_23 : decode cX10_orderWord 23 = .ok (.bipush 23, 2) := by decide +kernel
theorem dX10_orderWord_25 : decode cX10_orderWord 25 = .ok (.bipush 15, 2) := by decide +kernel
theorem dX10_orderWord_27 : decode cX10_orderWord 27 = .ok (.bipush 14, 2) := by decide +kernel
theorem dX10_orderWord_29 : decode cX10_orderWord 29 = .ok (.invokestatic 232, 3) := by decide +kernel
theorem dX10_orderWord_32 : decode cX10_orderWord 32 = .ok (.iconst 3, 1) := by decide +kernel
theorem dX10_orderWord_33 : decode cX10_orderWord 33 = .ok (.invokevirtual 238, 3) := by decide +kernel
theorem dX10_orderWord_36 : decode cX10_orderWord 36 = .ok (.ifCond .eq 5, 3) := by decide +kernel
theorem dX10_orderWord_39 : decode cX10_orderWord 39 = .ok (.iconst 1, 1) := by decide +kernel
theorem dX10_orderWord_40 : decode cX10_orderWord 40 = .ok (.ireturn, 1) := by decide +kernel
theorem dX10_orderWord_41 : decode cX10_orderWord 41 = .ok (.aload_n 0, 1) := by decide +kernel
theorem dX10_orderWord_42 : decode cX10_orderWord 42 = .ok (.iconst 0, 1) := by decide +kernel
theorem dX10_orderWord_43 : decode cX10_orderWord 43 = .ok (.iconst 4, 1) := by decide +kernel
theorem dX10_orderWord_44 : decode cX10_orderWord 44 = .ok (.bipush 9, 2) := by decide +kernel
theorem dX10_orderWord_46 : decode cX10_orderWord 46 = .ok (.bipush 6, 2) := by decide +kernel
theorem dX10_orderWord_48 : decode cX10_orderWord 48 = .ok (.bipush 6, 2) := by decide +kernel
theorem dX10_orderWord_50 : decode cX10_orderWord 50 = .ok (.invokestatic 232, 3) := by decide +kernel
theorem dX10_orderWord_53 : decode cX10_orderWord 53 = .ok (.iconst 4, 1) := by decide +kernel
theorem dX10_orderWord_54 : decode cX10_orderWord 54 = .ok (.invokevirtual 238, 3) := by decide +kernel
theorem dX10_orderWord_57 : decode cX10_orderWord 57 = .ok (.ifCond .eq 5, 3) := by decide +kernel
theorem dX10_orderWord_60 : decode cX10_orderWord 60 = .ok (.iconst 2, 1) := by decide +kernel
theorem dX10_orderWord_61 : decode cX10_orderWord 61 = .ok (.ireturn, 1) := by decide +kernel
theorem dX10_orderWord_62 : decode cX10_orderWord 62 = .ok (.aload_n 0, 1) := by decide +kernel
theorem dX10_orderWord_63 : decode cX10_orderWord 63 = .ok (.iconst 0, 1) := by decide +kernel
theorem dX10_orderWord_64 : decode cX10_orderWord 64 = .ok (.iconst 0, 1) := by decide +kernel
theorem dX10_orderWord_65 : decode cX10_orderWord 65 = .ok (.bipush 6, 2) := by decide +kernel
theorem dX10_orderWord_67 : decode cX10_orderWord 67 = .ok (.bipush 15, 2) := by decide +kernel
theorem dX10_orderWord_69 : decode cX10_orderWord 69 = .ok (.bipush 18, 2) := by decide +kernel
theorem dX10_orderWord_71 : decode cX10_orderWord 71 = .ok (.invokestatic 232, 3) := by decide +kernel
theorem dX10_orderWord_74 : decode cX10_orderWord 74 = .ok (.iconst 3, 1) := by decide +kernel
theorem dX10_orderWord_75 : decode cX10_orderWord 75 = .ok (.invokevirtual 238, 3) := by decide +kernel
theorem dX10_orderWord_78 : decode cX10_orderWord 78 = .ok (.ifCond .eq 5, 3) := by decide +kernel
theorem dX10_orderWord_81 : decode cX10_orderWord 81 = .ok (.iconst 3, 1) := by decide +kernel
theorem dX10_orderWord_82 : decode cX10_orderWord 82 = .ok (.ireturn, 1) := by decide +kernel
theorem dX10_orderWord_83 : decode cX10_orderWord 83 = .ok (.aload_n 0, 1) := by decide +kernel
theorem dX10_orderWord_84 : decode cX10_orderWord 84 = .ok (.iconst 0, 1) := by decide +kernel
theorem dX10_orderWord_85 : decode cX10_orderWord 85 = .ok (.iconst 0, 1) := by decide +kernel
theorem dX10_orderWord_86 : decode cX10_orderWord 86 = .ok (.bipush 13, 2) := by decide +kernel
theorem dX10_orderWord_88 : decode cX10_orderWord 88 = .ok (.iconst 5, 1) := by decide +kernel
theorem dX10_orderWord_89 : decode cX10_orderWord 89 = .ok (.bipush 20, 2) := by decide +kernel
theorem dX10_orderWord_91 : decode cX10_orderWord 91 = .ok (.invokestatic 232, 3) := by decide +kernel
theorem dX10_orderWord_94 : decode cX10_orderWord 94 = .ok (.iconst 3, 1) := by decide +kernel
theorem dX10_orderWord_95 : decode cX10_orderWord 95 = .ok (.invokevirtual 238, 3) := by decide +kernel
theorem dX10_orderWord_98 : decode cX10_orderWord 98 = .ok (.ifCond .eq 7, 3) := by decide +kernel
theorem dX10_orderWord_101 : decode cX10_orderWord 101 = .ok (.iconst 4, 1) := by decide +kernel
theorem dX10_orderWord_102 : decode cX10_orderWord 102 = .ok (.goto 4, 3) := by decide +kernel
theorem dX10_orderWord_105 : decode cX10_orderWord 105 = .ok (.iconst (-1), 1) := by decide +kernel
theorem dX10_orderWord_106 : decode cX10_orderWord 106 = .ok (.ireturn, 1) := by decide +kernel
theorem dX10_order_0 : decode cX10_order 0 = .ok (.aload_n 0, 1) := by decide +kernel
theorem dX10_order_1 : decode cX10_order 1 = .ok (.iconst 0, 1) := by decide +kernel
theorem dX10_order_2 : decode cX10_order 2 = .ok (.putfield 209, 3) := by decide +kernel
theorem dX10_order_5 : decode cX10_order 5 = .ok (.aload_n 0, 1) := by decide +kernel
theorem dX10_order_6 : decode cX10_order 6 = .ok (.iconst 0, 1) := by decide +kernel
theorem dX10_order_7 : decode cX10_order 7 = .ok (.putfield 212, 3) := by decide +kernel
theorem dX10_order_10 : decode cX10_order 10 = .ok (.aload_n 0, 1) := by decide +kernel
theorem dX10_order_11 : decode cX10_order 11 = .ok (.iconst (-1), 1) := by decide +kernel
theorem dX10_order_12 : decode cX10_order 12 = .ok (.putfield 47, 3) := by decide +kernel
theorem dX10_order_15 : decode cX10_order 15 = .ok (.iconst 0, 1) := by decide +kernel
theorem dX10_order_16 : decode cX10_order 16 = .ok (.istore_n 1, 1) := by decide +kernel
theorem dX10_order_17 : decode cX10_order 17 = .ok (.iconst 0, 1) := by decide +kernel
theorem dX10_order_18 : decode cX10_order 18 = .ok (.istore_n 2, 1) := by decide +kernel
theorem dX10_order_19 : decode cX10_order 19 = .ok (.aload_n 0, 1) := by decide +kernel
theorem dX10_order_20 : decode cX10_order 20 = .ok (.getfield 212, 3) := by decide +kernel
theorem dX10_order_23 : decode cX10_order 23 = .ok (.ifCond .ne 101, 3) := by decide +kernel
theorem dX10_order_26 : decode cX10_order 26 = .ok (.aload_n 0, 1) := by decide +kernel
theorem dX10_order_27 : decode cX10_order 27 = .ok (.aload_n 0, 1) := by decide +kernel
theorem dX10_order_28 : decode cX10_order 28 = .ok (.getfield 202, 3) := by decide +kernel
theorem dX10_order_31 : decode cX10_order 31 = .ok (.invokevirtual 215, 3) := by decide +kernel
theorem dX10_order_34 : decode cX10_order 34 = .ok (.ifCond .lt 90, 3) := by decide +kernel
theorem dX10_order_37 : decode cX10_order 37 = .ok (.aload_n 0, 1) := by decide +kernel
theorem dX10_order_38 : decode cX10_order 38 = .ok (.getfield 209, 3) := by decide +kernel
theorem dX10_order_41 : decode cX10_order 41 = .ok (.bipush 60, 2) := by decide +kernel
theorem dX10_order_43 : decode cX10_order 43 = .ok (.if_icmp .ge 81, 3) := by decide +kernel
theorem dX10_order_46 : decode cX10_order 46 = .ok (.aload_n 0, 1) := by decide +kernel
theorem dX10_order_47 : decode cX10_order 47 = .ok (.aload_n 0, 1) := by decide +kernel
theorem dX10_order_48 : decode cX10_order 48 = .ok (.getfield 202, 3) := by decide +kernel
theorem dX10_order_51 : decode cX10_order 51 = .ok (.invokevirtual 260, 3) := by decide +kernel
theorem dX10_order_54 : decode cX10_order 54 = .ok (.aload_n 0, 1) := by decide +kernel
theorem dX10_order_55 : decode cX10_order 55 = .ok (.invokevirtual 390, 3) := by decide +kernel
theorem dX10_order_58 : decode cX10_order 58 = .ok (.istore_n 3, 1) := by decide +kernel
theorem dX10_order_59 : decode cX10_order 59 = .ok (.aload_n 0, 1) := by decide +kernel
theorem dX10_order_60 : decode cX10_order 60 = .ok (.iload_n 3, 1) := by decide +kernel
theorem dX10_order_61 : decode cX10_order 61 = .ok (.ifCond .lt 7, 3) := by decide +kernel
theorem dX10_order_64 : decode cX10_order 64 = .ok (.iconst 1, 1) := by decide +kernel
theorem dX10_order_65 : decode cX10_order 65 = .ok (.goto 4, 3) := by decide +kernel
theorem dX10_order_68 : decode cX10_order 68 = .ok (.iconst 0, 1) := by decide +kernel
theorem dX10_order_69 : decode cX10_order 69 = .ok (.iconst 1, 1) := by decide +kernel
theorem dX10_order_70 : decode cX10_order 70 = .ok (.aload_n 0, 1) := by decide +kernel
theorem dX10_order_71 : decode cX10_order 71 = .ok (.getfield 218, 3) := by decide +kernel
theorem dX10_order_74 : decode cX10_order 74 = .ok (.invokevirtual 250, 3) := by decide +kernel
theorem dX10_order_77 : decode cX10_order 77 = .ok (.ifCond .eq 44, 3) := by decide +kernel
theorem dX10_order_80 : decode cX10_order 80 = .ok (.aload_n 0, 1) := by decide +kernel
theorem dX10_order_81 : decode cX10_order 81 = .ok (.iload_n 1, 1) := by decide +kernel
theorem dX10_order_82 : decode cX10_order 82 = .ok (.iload_n 3, 1) := by decide +kernel
theorem dX10_order_83 : decode cX10_order 83 = .ok (.ishr, 1) := by decide +kernel
theorem dX10_order_84 : decode cX10_order 84 = .ok (.iconst 1, 1) := by decide +kernel
theorem dX10_order_85 : decode cX10_order 85 = .ok (.iand, 1) := by decide +kernel
theorem dX10_order_86 : decode cX10_order 86 = .ok (.ifCond .ne 7, 3) := by decide +kernel
theorem dX10_order_89 : decode cX10_order 89 = .ok (.iconst 1, 1) := by decide +kernel
theorem dX10_order_90 : decode cX10_order 90 = .ok (.goto 4, 3) := by decide +kernel
theorem dX10_order_93 : decode cX10_order 93 = .ok (.iconst 0, 1) := by decide +kernel
theorem dX10_order_94 : decode cX10_order 94 = .ok (.iconst 3, 1) := by decide +kernel
theorem dX10_order_95 : decode cX10_order 95 = .ok (.aload_n 0, 1) := by decide +kernel
theorem dX10_order_96 : decode cX10_order 96 = .ok (.getfield 218, 3) := by decide +kernel
theorem dX10_order_99 : decode cX10_order 99 = .ok (.invokevirtual 250, 3) := by decide +kernel
theorem dX10_order_102 : decode cX10_order 102 = .ok (.ifCond .eq 19, 3) := by decide +kernel
theorem dX10_order_105 : decode cX10_order 105 = .ok (.iload_n 1, 1) := by decide +kernel
theorem dX10_order_106 : decode cX10_order 106 = .ok (.iconst 1, 1) := by decide +kernel
theorem dX10_order_107 : decode cX10_order 107 = .ok (.iload_n 3, 1) := by decide +kernel
theorem dX10_order_108 : decode cX10_order 108 = .ok (.ishl, 1) := by decide +kernel
theorem dX10_order_109 : decode cX10_order 109 = .ok (.ior, 1) := by decide +kernel
theorem dX10_order_110 : decode cX10_order 110 = .ok (.istore_n 1, 1) := by decide +kernel
theorem dX10_order_111 : decode cX10_order 111 = .ok (.aload_n 0, 1) := by decide +kernel
theorem dX10_order_112 : decode cX10_order 112 = .ok (.getfield 54, 3) := by decide +kernel
theorem dX10_order_115 : decode cX10_order 115 = .ok (.iload_n 2, 1) := by decide +kernel
theorem dX10_order_116 : decode cX10_order 116 = .ok (.iload_n 3, 1) := by decide +kernel
theorem dX10_order_117 : decode cX10_order 117 = .ok (.iastore, 1) := by decide +kernel
theorem dX10_order_118 : decode cX10_order 118 = .ok (.iinc 2 1, 3) := by decide +kernel
theorem dX10_order_121 : decode cX10_order 121 = .ok (.goto (-102), 3) := by decide +kernel
theorem dX10_order_124 : decode cX10_order 124 = .ok (.aload_n 0, 1) := by decide +kernel
theorem dX10_order_125 : decode cX10_order 125 = .ok (.aload_n 0, 1) := by decide +kernel
theorem dX10_order_126 : decode cX10_order 126 = .ok (.getfield 202, 3) := by decide +kernel
theorem dX10_order_129 : decode cX10_order 129 = .ok (.bipush 60, 2) := by decide +kernel
theorem dX10_order_131 : decode cX10_order 131 = .ok (.if_icmp .gt 7, 3) := by decide +kernel
theorem dX10_order_134 : decode cX10_order 134 = .ok (.iconst 1, 1) := by decide +kernel
theorem dX10_order_135 : decode cX10_order 135 = .ok (.goto 4, 3) := by decide +kernel
theorem dX10_order_138 : decode cX10_order 138 = .ok (.iconst 0, 1) := by decide +kernel
theorem dX10_order_139 : decode cX10_order 139 = .ok (.iconst 1, 1) := by decide +kernel
theorem dX10_order_140 : decode cX10_order 140 = .ok (.bipush 60, 2) := by decide +kernel
theorem dX10_order_142 : decode cX10_order 142 = .ok (.invokevirtual 250, 3) := by decide +kernel
theorem dX10_order_145 : decode cX10_order 145 = .ok (.ifCond .eq 28, 3) := by decide +kernel
theorem dX10_order_148 : decode cX10_order 148 = .ok (.aload_n 0, 1) := by decide +kernel
theorem dX10_order_149 : decode cX10_order 149 = .ok (.iload_n 2, 1) := by decide +kernel
theorem dX10_order_150 : decode cX10_order 150 = .ok (.ifCond .le 7, 3) := by decide +kernel
theorem dX10_order_153 : decode cX10_order 153 = .ok (.iconst 1, 1) := by decide +kernel
theorem dX10_order_154 : decode cX10_order 154 = .ok (.goto 4, 3) := by decide +kernel
theorem dX10_order_157 : decode cX10_order 157 = .ok (.iconst 0, 1) := by decide +kernel
theorem dX10_order_158 : decode cX10_order 158 = .ok (.iconst 1, 1) := by decide +kernel
theorem dX10_order_159 : decode cX10_order 159 = .ok (.aload_n 0, 1) := by decide +kernel
theorem dX10_order_160 : decode cX10_order 160 = .ok (.getfield 202, 3) := by decide +kernel
theorem dX10_order_163 : decode cX10_order 163 = .ok (.invokevirtual 250, 3) := by decide +kernel
theorem dX10_order_166 : decode cX10_order 166 = .ok (.ifCond .eq 7, 3) := by decide +kernel
theorem dX10_order_169 : decode cX10_order 169 = .ok (.iconst 1, 1) := by decide +kernel
theorem dX10_order_170 : decode cX10_order 170 = .ok (.goto 4, 3) := by decide +kernel
theorem dX10_order_173 : decode cX10_order 173 = .ok (.iconst 0, 1) := by decide +kernel
theorem dX10_order_174 : decode cX10_order 174 = .ok (.istore_n 3, 1) := by decide +kernel
theorem dX10_order_175 : decode cX10_order 175 = .ok (.aload_n 0, 1) := by decide +kernel
theorem dX10_order_176 : decode cX10_order 176 = .ok (.iconst 0, 1) := by decide +kernel
theorem dX10_order_177 : decode cX10_order 177 = .ok (.putfield 202, 3) := by decide +kernel
theorem dX10_order_180 : decode cX10_order 180 = .ok (.aload_n 0, 1) := by decide +kernel
theorem dX10_order_181 : decode cX10_order 181 = .ok (.getfield 212, 3) := by decide +kernel
theorem dX10_order_184 : decode cX10_order 184 = .ok (.ifCond .le 11, 3) := by decide +kernel
theorem dX10_order_187 : decode cX10_order 187 = .ok (.bipush (-10), 2) := by decide +kernel
theorem dX10_order_189 : decode cX10_order 189 = .ok (.aload_n 0, 1) := by decide +kernel
theorem dX10_order_190 : decode cX10_order 190 = .ok (.getfield 212, 3) := by decide +kernel
theorem dX10_order_193 : decode cX10_order 193 = .ok (.isub, 1) := by decide +kernel
theorem dX10_order_194 : decode cX10_order 194 = .ok (.ireturn, 1) := by decide +kernel
theorem dX10_order_195 : decode cX10_order 195 = .ok (.iconst 0, 1) := by decide +kernel
theorem dX10_order_196 : decode cX10_order 196 = .ok (.istore 4, 2) := by decide +kernel
theorem dX10_order_198 : decode cX10_order 198 = .ok (.iload 4, 2) := by decide +kernel
theorem dX10_order_200 : decode cX10_order 200 = .ok (.iload_n 2, 1) := by decide +kernel
theorem dX10_order_201 : decode cX10_order 201 = .ok (.if_icmp .ge 23, 3) := by decide +kernel
theorem dX10_order_204 : decode cX10_order 204 = .ok (.aload_n 0, 1) := by decide +kernel
theorem dX10_order_205 : decode cX10_order 205 = .ok (.getfield 94, 3) := by decide +kernel
theorem dX10_order_208 : decode cX10_order 208 = .ok (.iload 4, 2) := by decide +kernel
theorem dX10_order_210 : decode cX10_order 210 = .ok (.aload_n 0, 1) := by decide +kernel
theorem dX10_order_211 : decode cX10_order 211 = .ok (.getfield 54, 3) := by decide +kernel
theorem dX10_order_214 : decode cX10_order 214 = .ok (.iload 4, 2) := by decide +kernel
theorem dX10_order_216 : decode cX10_order 216 = .ok (.iaload, 1) := by decide +kernel
theorem dX10_order_217 : decode cX10_order 217 = .ok (.iastore, 1) := by decide +kernel
theorem dX10_order_218 : decode cX10_order 218 = .ok (.iinc 4 1, 3) := by decide +kernel
theorem dX10_order_221 : decode cX10_order 221 = .ok (.goto (-23), 3) := by decide +kernel
theorem dX10_order_224 : decode cX10_order 224 = .ok (.aload_n 0, 1) := by decide +kernel
theorem dX10_order_225 : decode cX10_order 225 = .ok (.iload_n 2, 1) := by decide +kernel
theorem dX10_order_226 : decode cX10_order 226 = .ok (.putfield 111, 3) := by decide +kernel
theorem dX10_order_229 : decode cX10_order 229 = .ok (.iload_n 2, 1) := by decide +kernel
theorem dX10_order_230 : decode cX10_order 230 = .ok (.ireturn, 1) := by decide +kernel
theorem dX10_reach_0 : decode cX10_reach 0 = .ok (.iload_n 1, 1) := by decide +kernel
theorem dX10_reach_1 : decode cX10_reach 1 = .ok (.invokestatic 277, 3) := by decide +kernel
theorem dX10_reach_4 : decode cX10_reach 4 = .ok (.ifCond .ne 7, 3) := by decide +kernel
theorem dX10_reach_7 : decode cX10_reach 7 = .ok (.sipush (-1001), 3) := by decide +kernel
theorem dX10_reach_10 : decode cX10_reach 10 = .ok (.ireturn, 1) := by decide +kernel
theorem dX10_reach_11 : decode cX10_reach 11 = .ok (.iload_n 2, 1) := by decide +kernel
theorem dX10_reach_12 : decode cX10_reach 12 = .ok (.i2l, 1) := by decide +kernel
theorem dX10_reach_13 : decode cX10_reach 13 = .ok (.lconst 0, 1) := by decide +kernel
theorem dX10_reach_14 : decode cX10_reach 14 = .ok (.lconst 1, 1) := by decide +kernel
theorem dX10_reach_15 : decode cX10_reach 15 = .ok (.invokestatic 117, 3) := by decide +kernel
theorem dX10_reach_18 : decode cX10_reach 18 = .ok (.ifCond .ne 7, 3) := by decide +kernel
theorem dX10_reach_21 : decode cX10_reach 21 = .ok (.sipush (-1002), 3) := by decide +kernel
theorem dX10_reach_24 : decode cX10_reach 24 = .ok (.ireturn, 1) := by decide +kernel
theorem dX10_reach_25 : decode cX10_reach 25 = .ok (.aload_n 0, 1) := by decide +kernel
theorem dX10_reach_26 : decode cX10_reach 26 = .ok (.invokevirtual 198, 3) := by decide +kernel
theorem dX10_reach_29 : decode cX10_reach 29 = .ok (.istore_n 3, 1) := by decide +kernel
theorem dX10_reach_30 : decode cX10_reach 30 = .ok (.iload_n 3, 1) := by decide +kernel
theorem dX10_reach_31 : decode cX10_reach 31 = .ok (.bipush 6, 2) := by decide +kernel
theorem dX10_reach_33 : decode cX10_reach 33 = .ok (.if_icmp .le 7, 3) := by decide +kernel
theorem dX10_reach_36 : decode cX10_reach 36 = .ok (.sipush (-1005), 3) := by decide +kernel
theorem dX10_reach_39 : decode cX10_reach 39 = .ok (.ireturn, 1) := by decide +kernel
theorem dX10_reach_40 : decode cX10_reach 40 = .ok (.iconst 0, 1) := by decide +kernel
theorem dX10_reach_41 : decode cX10_reach 41 = .ok (.istore 4, 2) := by decide +kernel
theorem dX10_reach_43 : decode cX10_reach 43 = .ok (.iconst 1, 1) := by decide +kernel
theorem dX10_reach_44 : decode cX10_reach 44 = .ok (.istore 5, 2) := by decide +kernel
theorem dX10_reach_46 : decode cX10_reach 46 = .ok (.iconst 0, 1) := by decide +kernel
theorem dX10_reach_47 : decode cX10_reach 47 = .ok (.istore 6, 2) := by decide +kernel
theorem dX10_reach_49 : decode cX10_reach 49 = .ok (.iload 6, 2) := by decide +kernel
theorem dX10_reach_51 : decode cX10_reach 51 = .ok (.aload_n 0, 1) := by decide +kernel
theorem dX10_reach_52 : decode cX10_reach 52 = .ok (.getfield 195, 3) := by decide +kernel
theorem dX10_reach_55 : decode cX10_reach 55 = .ok (.if_icmp .ge 36, 3) := by decide +kernel
theorem dX10_reach_58 : decode cX10_reach 58 = .ok (.aload_n 0, 1) := by decide +kernel
theorem dX10_reach_59 : decode cX10_reach 59 = .ok (.iload 6, 2) := by decide +kernel
theorem dX10_reach_61 : decode cX10_reach 61 = .ok (.invokevirtual 368, 3) := by decide +kernel
theorem dX10_reach_64 : decode cX10_reach 64 = .ok (.ifCond .ne 21, 3) := by decide +kernel
theorem dX10_reach_67 : decode cX10_reach 67 = .ok (.aload_n 0, 1) := by decide +kernel
theorem dX10_reach_68 : decode cX10_reach 68 = .ok (.getfield 100, 3) := by decide +kernel
theorem dX10_reach_71 : decode cX10_reach 71 = .ok (.iload 4, 2) := by decide +kernel
theorem dX10_reach_73 : decode cX10_reach 73 = .ok (.iload 6, 2) := by decide +kernel
theorem dX10_reach_75 : decode cX10_reach 75 = .ok (.iastore, 1) := by decide +kernel
theorem dX10_reach_76 : decode cX10_reach 76 = .ok (.iinc 4 1, 3) := by decide +kernel
theorem dX10_reach_79 : decode cX10_reach 79 = .ok (.iload 5, 2) := by decide +kernel
theorem dX10_reach_81 : decode cX10_reach 81 = .ok (.iconst 3, 1) := by decide +kernel
theorem dX10_reach_82 : decode cX10_reach 82 = .ok (.imul, 1) := by decide +kernel
theorem dX10_reach_83 : decode cX10_reach 83 = .ok (.istore 5, 2) := by decide +kernel
theorem dX10_reach_85 : decode cX10_reach 85 = .ok (.iinc 6 1, 3) := by decide +kernel
theorem dX10_reach_88 : decode cX10_reach 88 = .ok (.goto (-39), 3) := by decide +kernel
theorem dX10_reach_91 : decode cX10_reach 91 = .ok (.bipush 99, 2) := by decide +kernel
theorem dX10_reach_93 : decode cX10_reach 93 = .ok (.istore 6, 2) := by decide +kernel
theorem dX10_reach_95 : decode cX10_reach 95 = .ok (.iconst 0, 1) := by decide +kernel
theorem dX10_reach_96 : decode cX10_reach 96 = .ok (.istore 7, 2) := by decide +kernel
theorem dX10_reach_98 : decode cX10_reach 98 = .ok (.iconst 0, 1) := by decide +kernel
theorem dX10_reach_99 : decode cX10_reach 99 = .ok (.istore 8, 2) := by decide +kernel
theorem dX10_reach_101 : decode cX10_reach 101 = .ok (.iload 8, 2) := by decide +kernel
theorem dX10_reach_103 : decode cX10_reach 103 = .ok (.iload 5, 2) := by decide +kernel
theorem dX10_reach_105 : decode cX10_reach 105 = .ok (.if_icmp .ge 231, 3) := by decide +kernel
theorem dX10_reach_108 : decode cX10_reach 108 = .ok (.iconst 0, 1) := by decide +kernel
theorem dX10_reach_109 : decode cX10_reach 109 = .ok (.istore 9, 2) := by decide +kernel
theorem dX10_reach_111 : decode cX10_reach 111 = .ok (.iload 9, 2) := by decide +kernel
theorem dX10_reach_113 : decode cX10_reach 113 = .ok (.bipush 6, 2) := by decide +kernel
theorem dX10_reach_115 : decode cX10_reach 115 = .ok (.if_icmp .ge 24, 3) := by decide +kernel
theorem dX10_reach_118 : decode cX10_reach 118 = .ok (.aload_n 0, 1) := by decide +kernel
theorem dX10_reach_119 : decode cX10_reach 119 = .ok (.getfield 97, 3) := by decide +kernel
theorem dX10_reach_122 : decode cX10_reach 122 = .ok (.iload 9, 2) := by decide +kernel
theorem dX10_reach_124 : decode cX10_reach 124 = .ok (.aload_n 0, 1) := by decide +kernel
theorem dX10_reach_125 : decode cX10_reach 125 = .ok (.iload 9, 2) := by decide +kernel
theorem dX10_reach_127 : decode cX10_reach 127 = .ok (.bipush 63, 2) := by decide +kernel
theorem dX10_reach_129 : decode cX10_reach 129 = .ok (.invokevirtual 382, 3) := by decide +kernel
theorem dX10_reach_132 : decode cX10_reach 132 = .ok (.iastore, 1) := by decide +kernel
theorem dX10_reach_133 : decode cX10_reach 133 = .ok (.iinc 9 1, 3) := by decide +kernel
theorem dX10_reach_136 : decode cX10_reach 136 = .ok (.goto (-25), 3) := by decide +kernel
theorem dX10_reach_139 : decode cX10_reach 139 = .ok (.iload 8, 2) := by decide +kernel
theorem dX10_reach_141 : decode cX10_reach 141 = .ok (.istore 9, 2) := by decide +kernel
theorem dX10_reach_143 : decode cX10_reach 143 = .ok (.iconst 0, 1) := by decide +kernel
theorem dX10_reach_144 : decode cX10_reach 144 = .ok (.istore 10, 2) := by decide +kernel
theorem dX10_reach_146 : decode cX10_reach 146 = .ok (.iload 10, 2) := by decide +kernel
theorem dX10_reach_148 : decode cX10_reach 148 = .ok (.iload_n 3, 1) := by decide +kernel
theorem dX10_reach_149 : decode cX10_reach 149 = .ok (.if_icmp .ge 101, 3) := by decide +kernel
theorem dX10_reach_152 : decode cX10_reach 152 = .ok (.iload 9, 2) := by decide +kernel
theorem dX10_reach_154 : decode cX10_reach 154 = .ok (.iconst 3, 1) := by decide +kernel
theorem dX10_reach_155 : decode cX10_reach 155 = .ok (.irem, 1) := by decide +kernel
theorem dX10_reach_156 : decode cX10_reach 156 = .ok (.istore 11, 2) := by decide +kernel
theorem dX10_reach_158 : decode cX10_reach 158 = .ok (.iload 9, 2) := by decide +kernel
theorem dX10_reach_160 : decode cX10_reach 160 = .ok (.iconst 3, 1) := by decide +kernel
theorem dX10_reach_161 : decode cX10_reach 161 = .ok (.idiv, 1) := by decide +kernel
theorem dX10_reach_162 : decode cX10_reach 162 = .ok (.istore 9, 2) := by decide +kernel
theorem dX10_reach_164 : decode cX10_reach 164 = .ok (.aload_n 0, 1) := by decide +kernel
theorem dX10_reach_165 : decode cX10_reach 165 = .ok (.getfield 97, 3) := by decide +kernel
theorem dX10_reach_168 : decode cX10_reach 168 = .ok (.aload_n 0, 1) := by decide +kernel
theorem dX10_reach_169 : decode cX10_reach 169 = .ok (.getfield 76, 3) := by decide +kernel
theorem dX10_reach_172 : decode cX10_reach 172 = .ok (.aload_n 0, 1) := by decide +kernel
theorem dX10_reach_173 : decode cX10_reach 173 = .ok (.getfield 100, 3) := by decide +kernel
theorem dX10_reach_176 : decode cX10_reach 176 = .ok (.iload 10, 2) := by decide +kernel
theorem dX10_reach_178 : decode cX10_reach 178 = .ok (.iaload, 1) := by decide +kernel
theorem dX10_reach_179 : decode cX10_reach 179 = .ok (.iaload, 1) := by decide +kernel
theorem dX10_reach_180 : decode cX10_reach 180 = .ok (.dup2, 1) := by decide +kernel
theorem dX10_reach_181 : decode cX10_reach 181 = .ok (.iaload, 1) := by decide +kernel
theorem dX10_reach_182 : decode cX10_reach 182 = .ok (.iload 11, 2) := by decide +kernel
theorem dX10_reach_184 : decode cX10_reach 184 = .ok (.ifCond .ne 7, 3) := by decide +kernel
theorem dX10_reach_187 : decode cX10_reach 187 = .ok (.iconst 2, 1) := by decide +kernel
theorem dX10_reach_188 : decode cX10_reach 188 = .ok (.goto 14, 3) := by decide +kernel
theorem dX10_reach_191 : decode cX10_reach 191 = .ok (.iload 11, 2) := by decide +kernel
theorem dX10_reach_193 : decode cX10_reach 193 = .ok (.iconst 1, 1) := by decide +kernel
theorem dX10_reach_194 : decode cX10_reach 194 = .ok (.if_icmp .ne 7, 3) := by decide +kernel
theorem dX10_reach_197 : decode cX10_reach 197 = .ok (.iconst 0, 1) := by decide +kernel
theorem dX10_reach_198 : decode cX10_reach 198 = .ok (.goto 4, 3) := by decide +kernel
theorem dX10_reach_201 : decode cX10_reach 201 = .ok (.iconst 1, 1) := by decide +kernel
theorem dX10_reach_202 : decode cX10_reach 202 = .ok (.iadd, 1) := by decide +kernel
theorem dX10_reach_203 : decode cX10_reach 203 = .ok (.iastore, 1) := by decide +kernel
theorem dX10_reach_204 : decode cX10_reach 204 = .ok (.aload_n 0, 1) := by decide +kernel
theorem dX10_reach_205 : decode cX10_reach 205 = .ok (.getfield 97, 3) := by decide +kernel
theorem dX10_reach_208 : decode cX10_reach 208 = .ok (.aload_n 0, 1) := by decide +kernel
theorem dX10_reach_209 : decode cX10_reach 209 = .ok (.getfield 79, 3) := by decide +kernel
theorem dX10_reach_212 : decode cX10_reach 212 = .ok (.aload_n 0, 1) := by decide +kernel
theorem dX10_reach_213 : decode cX10_reach 213 = .ok (.getfield 100, 3) := by decide +kernel
theorem dX10_reach_216 : decode cX10_reach 216 = .ok (.iload 10, 2) := by decide +kernel
theorem dX10_reach_218 : decode cX10_reach 218 = .ok (.iaload, 1) := by decide +kernel
theorem dX10_reach_219 : decode cX10_reach 219 = .ok (.iaload, 1) := by decide +kernel
theorem dX10_reach_220 : decode cX10_reach 220 = .ok (.dup2, 1) := by decide +kernel
theorem dX10_reach_221 : decode cX10_reach 221 = .ok (.iaload, 1) := by decide +kernel
theorem dX10_reach_222 : decode cX10_reach 222 = .ok (.iload 11, 2) := by decide +kernel
theorem dX10_reach_224 : decode cX10_reach 224 = .ok (.ifCond .ne 7, 3) := by decide +kernel
theorem dX10_reach_227 : decode cX10_reach 227 = .ok (.iconst 0, 1) := by decide +kernel
theorem dX10_reach_228 : decode cX10_reach 228 = .ok (.goto 14, 3) := by decide +kernel
theorem dX10_reach_231 : decode cX10_reach 231 = .ok (.iload 11, 2) := by decide +kernel
theorem dX10_reach_233 : decode cX10_reach 233 = .ok (.iconst 1, 1) := by decide +kernel
theorem dX10_reach_234 : decode cX10_reach 234 = .ok (.if_icmp .ne 7, 3) := by decide +kernel
theorem dX10_reach_237 : decode cX10_reach 237 = .ok (.iconst 2, 1) := by decide +kernel
theorem dX10_reach_238 : decode cX10_reach 238 = .ok (.goto 4, 3) := by decide +kernel
theorem dX10_reach_241 : decode cX10_reach 241 = .ok (.iconst 1, 1) := by decide +kernel
theorem dX10_reach_242 : decode cX10_reach 242 = .ok (.iadd, 1) := by decide +kernel
theorem dX10_reach_243 : decode cX10_reach 243 = .ok (.iastore, 1) := by decide +kernel
theorem dX10_reach_244 : decode cX10_reach 244 = .ok (.iinc 10 1, 3) := by decide +kernel
theorem dX10_reach_247 : decode cX10_reach 247 = .ok (.goto (-101), 3) := by decide +kernel
theorem dX10_reach_250 : decode cX10_reach 250 = .ok (.iconst 1, 1) := by decide +kernel
theorem dX10_reach_251 : decode cX10_reach 251 = .ok (.istore 10, 2) := by decide +kernel
theorem dX10_reach_253 : decode cX10_reach 253 = .ok (.iconst 0, 1) := by decide +kernel
theorem dX10_reach_254 : decode cX10_reach 254 = .ok (.istore 11, 2) := by decide +kernel
theorem dX10_reach_256 : decode cX10_reach 256 = .ok (.iload 11, 2) := by decide +kernel
theorem dX10_reach_258 : decode cX10_reach 258 = .ok (.bipush 6, 2) := by decide +kernel
theorem dX10_reach_260 : decode cX10_reach 260 = .ok (.if_icmp .ge 38, 3) := by decide +kernel
theorem dX10_reach_263 : decode cX10_reach 263 = .ok (.iload 10, 2) := by decide +kernel
theorem dX10_reach_265 : decode cX10_reach 265 = .ok (.aload_n 0, 1) := by decide +kernel
theorem dX10_reach_266 : decode cX10_reach 266 = .ok (.getfield 97, 3) := by decide +kernel
theorem dX10_reach_269 : decode cX10_reach 269 = .ok (.iload 11, 2) := by decide +kernel
theorem dX10_reach_271 : decode cX10_reach 271 = .ok (.iaload, 1) := by decide +kernel
theorem dX10_reach_272 : decode cX10_reach 272 = .ok (.aload_n 0, 1) := by decide +kernel
theorem dX10_reach_273 : decode cX10_reach 273 = .ok (.getfield 97, 3) := by decide +kernel
theorem dX10_reach_276 : decode cX10_reach 276 = .ok (.iload_n 1, 1) := by decide +kernel
theorem dX10_reach_277 : decode cX10_reach 277 = .ok (.iaload, 1) := by decide +kernel
theorem dX10_reach_278 : decode cX10_reach 278 = .ok (.if_icmp .le 7, 3) := by decide +kernel
theorem dX10_reach_281 : decode cX10_reach 281 = .ok (.iconst 1, 1) := by decide +kernel
theorem dX10_reach_282 : decode cX10_reach 282 = .ok (.goto 4, 3) := by decide +kernel
theorem dX10_reach_285 : decode cX10_reach 285 = .ok (.iconst 0, 1) := by decide +kernel
theorem dX10_reach_286 : decode cX10_reach 286 = .ok (.invokestatic 155, 3) := by decide +kernel
theorem dX10_reach_289 : decode cX10_reach 289 = .ok (.iadd, 1) := by decide +kernel
theorem dX10_reach_290 : decode cX10_reach 290 = .ok (.istore 10, 2) := by decide +kernel
theorem dX10_reach_292 : decode cX10_reach 292 = .ok (.iinc 11 1, 3) := by decide +kernel
theorem dX10_reach_295 : decode cX10_reach 295 = .ok (.goto (-39), 3) := by decide +kernel
theorem dX10_reach_298 : decode cX10_reach 298 = .ok (.iload 10, 2) := by decide +kernel
theorem dX10_reach_300 : decode cX10_reach 300 = .ok (.iload 6, 2) := by decide +kernel
theorem dX10_reach_302 : decode cX10_reach 302 = .ok (.if_icmp .ge 8, 3) := by decide +kernel
theorem dX10_reach_305 : decode cX10_reach 305 = .ok (.iload 10, 2) := by decide +kernel
theorem dX10_reach_307 : decode cX10_reach 307 = .ok (.goto 5, 3) := by decide +kernel
theorem dX10_reach_310 : decode cX10_reach 310 = .ok (.iload 6, 2) := by decide +kernel
theorem dX10_reach_312 : decode cX10_reach 312 = .ok (.istore 6, 2) := by decide +kernel
theorem dX10_reach_314 : decode cX10_reach 314 = .ok (.iload 10, 2) := by decide +kernel
theorem dX10_reach_316 : decode cX10_reach 316 = .ok (.iload 7, 2) := by decide +kernel
theorem dX10_reach_318 : decode cX10_reach 318 = .ok (.if_icmp .le 8, 3) := by decide +kernel
theorem dX10_reach_321 : decode cX10_reach 321 = .ok (.iload 10, 2) := by decide +kernel
theorem dX10_reach_323 : decode cX10_reach 323 = .ok (.goto 5, 3) := by decide +kernel
theorem dX10_reach_326 : decode cX10_reach 326 = .ok (.iload 7, 2) := by decide +kernel
theorem dX10_reach_328 : decode cX10_reach 328 = .ok (.istore 7, 2) := by decide +kernel
theorem dX10_reach_330 : decode cX10_reach 330 = .ok (.iinc 8 1, 3) := by decide +kernel
theorem dX10_reach_333 : decode cX10_reach 333 = .ok (.goto (-232), 3) := by decide +kernel
theorem dX10_reach_336 : decode cX10_reach 336 = .ok (.iload_n 2, 1) := by decide +kernel
theorem dX10_reach_337 : decode cX10_reach 337 = .ok (.ifCond .ne 8, 3) := by decide +kernel
theorem dX10_reach_340 : decode cX10_reach 340 = .ok (.iload 6, 2) := by decide +kernel
theorem dX10_reach_342 : decode cX10_reach 342 = .ok (.goto 5, 3) := by decide +kernel
theorem dX10_reach_345 : decode cX10_reach 345 = .ok (.iload 7, 2) := by decide +kernel
theorem dX10_reach_347 : decode cX10_reach 347 = .ok (.ireturn, 1) := by decide +kernel
end
section
theorem dL_law_0 : decode cL_law 0 = .ok (.new 7, 3) := by decide +kernel
theorem dL_law_3 : decode cL_law 3 = .ok (.dup, 1) := by decide +kernel
theorem dL_law_4 : decode cL_law 4 = .ok (.invokespecial 9, 3) := by decide +kernel
theorem dL_law_7 : decode cL_law 7 = .ok (.astore_n 1, 1) := by decide +kernel
theorem dL_law_8 : decode cL_law 8 = .ok (.new 10, 3) := by decide +kernel
theorem dL_law_11 : decode cL_law 11 = .ok (.dup, 1) := by decide +kernel
theorem dL_law_12 : decode cL_law 12 = .ok (.invokespecial 12, 3) := by decide +kernel
theorem dL_law_15 : decode cL_law 15 = .ok (.astore_n 2, 1) := by decide +kernel
theorem dL_law_16 : decode cL_law 16 = .ok (.iconst 0, 1) := by decide +kernel
theorem dL_law_17 : decode cL_law 17 = .ok (.istore_n 3, 1) := by decide +kernel
theorem dL_law_18 : decode cL_law 18 = .ok (.iload_n 3, 1) := by decide +kernel
theorem dL_law_19 : decode cL_law 19 = .ok (.aload_n 0, 1) := by decide +kernel
theorem dL_law_20 : decode cL_law 20 = .ok (.arraylength, 1) := by decide +kernel
theorem dL_law_21 : decode cL_law 21 = .ok (.bipush 8, 2) := by decide +kernel
theorem dL_law_23 : decode cL_law 23 = .ok (.isub, 1) := by decide +kernel
theorem dL_law_24 : decode cL_law 24 = .ok (.if_icmp .gt 1100, 3) := by decide +kernel
theorem dL_law_27 : decode cL_law 27 = .ok (.aload_n 0, 1) := by decide +kernel
theorem dL_law_28 : decode cL_law 28 = .ok (.iload_n 3, 1) := by decide +kernel
theorem dL_law_29 : decode cL_law 29 = .ok (.iaload, 1) := by decide +kernel
theorem dL_law_30 : decode cL_law 30 = .ok (.bipush 31, 2) := by decide +kernel
theorem dL_law_32 : decode cL_law 32 = .ok (.iand, 1) := by decide +kernel
theorem dL_law_33 : decode cL_law 33 = .ok (.tableswitch 1085 0 24 #[115, 128, 231, 274, 297, 330, 373, 396, 459, 482, 495, 528, 561, 614, 647, 680, 767, 831, 874, 907, 950, 973, 1006, 1039, 1052], 115) := by decide +kernel
theorem dL_law_148 : decode cL_law 148 = .ok (.aload_n 1, 1) := by decide +kernel
theorem dL_law_149 : decode cL_law 149 = .ok (.invokevirtual 13, 3) := by decide +kernel
theorem dL_law_152 : decode cL_law 152 = .ok (.aload_n 2, 1) := by decide +kernel
theorem dL_law_153 : decode cL_law 153 = .ok (.invokevirtual 17, 3) := by decide +kernel
theorem dL_law_156 : decode cL_law 156 = .ok (.if_icmp .eq 962, 3) := by decide +kernel
theorem dL_law_159 : decode cL_law 159 = .ok (.iconst 0, 1) := by decide +kernel
theorem dL_law_160 : decode cL_law 160 = .ok (.ireturn, 1) := by decide +kernel
theorem dL_law_161 : decode cL_law 161 = .ok (.aload_n 1, 1) := by decide +kernel
theorem dL_law_162 : decode cL_law 162 = .ok (.aload_n 0, 1) := by decide +kernel
theorem dL_law_163 : decode cL_law 163 = .ok (.iload_n 3, 1) := by decide +kernel
theorem dL_law_164 : decode cL_law 164 = .ok (.iconst 1, 1) := by decide +kernel
theorem dL_law_165 : decode cL_law 165 = .ok (.iadd, 1) := by decide +kernel
theorem dL_law_166 : decode cL_law 166 = .ok (.iaload, 1) := by decide +kernel
theorem dL_law_167 : decode cL_law 167 = .ok (.aload_n 0, 1) := by decide +kernel
theorem dL_law_168 : decode cL_law 168 = .ok (.iload_n 3, 1) := by decide +kernel
theorem dL_law_169 : decode cL_law 169 = .ok (.iconst 2, 1) := by decide +kernel
theorem dL_law_170 : decode cL_law 170 = .ok (.iadd, 1) := by decide +kernel
theorem dL_law_171 : decode cL_law 171 = .ok (.iaload, 1) := by decide +kernel
theorem dL_law_172 : decode cL_law 172 = .ok (.aload_n 0, 1) := by decide +kernel
theorem dL_law_173 : decode cL_law 173 = .ok (.iload_n 3, 1) := by decide +kernel
theorem dL_law_174 : decode cL_law 174 = .ok (.iconst 3, 1) := by decide +kernel
theorem dL_law_175 : decode cL_law 175 = .ok (.iadd, 1) := by decide +kernel
theorem dL_law_176 : decode cL_law 176 = .ok (.iaload, 1) := by decide +kernel
theorem dL_law_177 : decode cL_law 177 = .ok (.aload_n 0, 1) := by decide +kernel
theorem dL_law_178 : decode cL_law 178 = .ok (.iload_n 3, 1) := by decide +kernel
theorem dL_law_179 : decode cL_law 179 = .ok (.iconst 4, 1) := by decide +kernel
theorem dL_law_180 : decode cL_law 180 = .ok (.iadd, 1) := by decide +kernel
theorem dL_law_181 : decode cL_law 181 = .ok (.iaload, 1) := by decide +kernel
theorem dL_law_182 : decode cL_law 182 = .ok (.aload_n 0, 1) := by decide +kernel
theorem dL_law_183 : decode cL_law 183 = .ok (.iload_n 3, 1) := by decide +kernel
theorem dL_law_184 : decode cL_law 184 = .ok (.iconst 5, 1) := by decide +kernel
theorem dL_law_185 : decode cL_law 185 = .ok (.iadd, 1) := by decide +kernel
theorem dL_law_186 : decode cL_law 186 = .ok (.iaload, 1) := by decide +kernel
theorem dL_law_187 : decode cL_law 187 = .ok (.aload_n 0, 1) := by decide +kernel
theorem dL_law_188 : decode cL_law 188 = .ok (.iload_n 3, 1) := by decide +kernel
theorem dL_law_189 : decode cL_law 189 = .ok (.bipush 6, 2) := by decide +kernel
theorem dL_law_191 : decode cL_law 191 = .ok (.iadd, 1) := by decide +kernel
theorem dL_law_192 : decode cL_law 192 = .ok (.iaload, 1) := by decide +kernel
theorem dL_law_193 : decode cL_law 193 = .ok (.aload_n 0, 1) := by decide +kernel
theorem dL_law_194 : decode cL_law 194 = .ok (.iload_n 3, 1) := by decide +kernel
theorem dL_law_195 : decode cL_law 195 = .ok (.bipush 7, 2) := by decide +kernel
theorem dL_law_197 : decode cL_law 197 = .ok (.iadd, 1) := by decide +kernel
theorem dL_law_198 : decode cL_law 198 = .ok (.iaload, 1) := by decide +kernel
theorem dL_law_199 : decode cL_law 199 = .ok (.ifCond .eq 7, 3) := by decide +kernel
theorem dL_law_202 : decode cL_law 202 = .ok (.iconst 1, 1) := by decide +kernel
theorem dL_law_203 : decode cL_law 203 = .ok (.goto 4, 3) := by decide +kernel
theorem dL_law_206 : decode cL_law 206 = .ok (.iconst 0, 1) := by decide +kernel
theorem dL_law_207 : decode cL_law 207 = .ok (.invokevirtual 18, 3) := by decide +kernel
theorem dL_law_210 : decode cL_law 210 = .ok (.aload_n 2, 1) := by decide +kernel
theorem dL_law_211 : decode cL_law 211 = .ok (.aload_n 0, 1) := by decide +kernel
theorem dL_law_212 : decode cL_law 212 = .ok (.iload_n 3, 1) := by decide +kernel
theorem dL_law_213 : decode cL_law 213 = .ok (.iconst 1, 1) := by decide +kernel
theorem dL_law_214 : decode cL_law 214 = .ok (.iadd, 1) := by decide +kernel
theorem dL_law_215 : decode cL_law 215 = .ok (.iaload, 1) := by decide +kernel
theorem dL_law_216 : decode cL_law 216 = .ok (.aload_n 0, 1) := by decide +kernel
theorem dL_law_217 : decode cL_law 217 = .ok (.iload_n 3, 1) := by decide +kernel
theorem dL_law_218 : decode cL_law 218 = .ok (.iconst 2, 1) := by decide +kernel
theorem dL_law_219 : decode cL_law 219 = .ok (.iadd, 1) := by decide +kernel
theorem dL_law_220 : decode cL_law 220 = .ok (.iaload, 1) := by decide +kernel
theorem dL_law_221 : decode cL_law 221 = .ok (.aload_n 0, 1) := by decide +kernel
theorem dL_law_222 : decode cL_law 222 = .ok (.iload_n 3, 1) := by decide +kernel
theorem dL_law_223 : decode cL_law 223 = .ok (.iconst 3, 1) := by decide +kernel
theorem dL_law_224 : decode cL_law 224 = .ok (.iadd, 1) := by decide +kernel
theorem dL_law_225 : decode cL_law 225 = .ok (.iaload, 1) := by decide +kernel
theorem dL_law_226 : decode cL_law 226 = .ok (.aload_n 0, 1) := by decide +kernel
theorem dL_law_227 : decode cL_law 227 = .ok (.iload_n 3, 1) := by decide +kernel
theorem dL_law_228 : decode cL_law 228 = .ok (.iconst 4, 1) := by decide +kernel
theorem dL_law_229 : decode cL_law 229 = .ok (.iadd, 1) := by decide +kernel
theorem dL_law_230 : decode cL_law 230 = .ok (.iaload, 1) := by decide +kernel
theorem dL_law_231 : decode cL_law 231 = .ok (.aload_n 0, 1) := by decide +kernel
theorem dL_law_232 : decode cL_law 232 = .ok (.iload_n 3, 1) := by decide +kernel
theorem dL_law_233 : decode cL_law 233 = .ok (.iconst 5, 1) := by decide +kernel
theorem dL_law_234 : decode cL_law 234 = .ok (.iadd, 1) := by decide +kernel
theorem dL_law_235 : decode cL_law 235 = .ok (.iaload, 1) := by decide +kernel
theorem dL_law_236 : decode cL_law 236 = .ok (.aload_n 0, 1) := by decide +kernel
theorem dL_law_237 : decode cL_law 237 = .ok (.iload_n 3, 1) := by decide +kernel
theorem dL_law_238 : decode cL_law 238 = .ok (.bipush 6, 2) := by decide +kernel
theorem dL_law_240 : decode cL_law 240 = .ok (.iadd, 1) := by decide +kernel
theorem dL_law_241 : decode cL_law 241 = .ok (.iaload, 1) := by decide +kernel
theorem dL_law_242 : decode cL_law 242 = .ok (.aload_n 0, 1) := by decide +kernel
theorem dL_law_243 : decode cL_law 243 = .ok (.iload_n 3, 1) := by decide +kernel
theorem dL_law_244 : decode cL_law 244 = .ok (.bipush 7, 2) := by decide +kernel
theorem dL_law_246 : decode cL_law 246 = .ok (.iadd, 1) := by decide +kernel
theorem dL_law_247 : decode cL_law 247 = .ok (.iaload, 1) := by decide +kernel
theorem dL_law_248 : decode cL_law 248 = .ok (.ifCond .eq 7, 3) := by decide +kernel
theorem dL_law_251 : decode cL_law 251 = .ok (.iconst 1, 1) := by decide +kernel
theorem dL_law_252 : decode cL_law 252 = .ok (.goto 4, 3) := by decide +kernel
theorem dL_law_255 : decode cL_law 255 = .ok (.iconst 0, 1) := by decide +kernel
theorem dL_law_256 : decode cL_law 256 = .ok (.invokevirtual 22, 3) := by decide +kernel
theorem dL_law_259 : decode cL_law 259 = .ok (.if_icmp .eq 859, 3) := by decide +kernel
theorem dL_law_262 : decode cL_law 262 = .ok (.iconst 0, 1) := by decide +kernel
theorem dL_law_263 : decode cL_law 263 = .ok (.ireturn, 1) := by decide +kernel
theorem dL_law_264 : decode cL_law 264 = .ok (.aload_n 1, 1) := by decide +kernel
theorem dL_law_265 : decode cL_law 265 = .ok (.aload_n 0, 1) := by decide +kernel
theorem dL_law_266 : decode cL_law 266 = .ok (.iload_n 3, 1) := by decide +kernel
theorem dL_law_267 : decode cL_law 267 = .ok (.iconst 1, 1) := by decide +kernel
theorem dL_law_268 : decode cL_law 268 = .ok (.iadd, 1) := by decide +kernel
theorem dL_law_269 : decode cL_law 269 = .ok (.iaload, 1) := by decide +kernel
theorem dL_law_270 : decode cL_law 270 = .ok (.aload_n 0, 1) := by decide +kernel
theorem dL_law_271 : decode cL_law 271 = .ok (.iload_n 3, 1) := by decide +kernel
theorem dL_law_272 : decode cL_law 272 = .ok (.iconst 2, 1) := by decide +kernel
theorem dL_law_273 : decode cL_law 273 = .ok (.iadd, 1) := by decide +kernel
theorem dL_law_274 : decode cL_law 274 = .ok (.iaload, 1) := by decide +kernel
theorem dL_law_275 : decode cL_law 275 = .ok (.aload_n 0, 1) := by decide +kernel
theorem dL_law_276 : decode cL_law 276 = .ok (.iload_n 3, 1) := by decide +kernel
theorem dL_law_277 : decode cL_law 277 = .ok (.iconst 3, 1) := by decide +kernel
theorem dL_law_278 : decode cL_law 278 = .ok (.iadd, 1) := by decide +kernel
theorem dL_law_279 : decode cL_law 279 = .ok (.iaload, 1) := by decide +kernel
theorem dL_law_280 : decode cL_law 280 = .ok (.invokevirtual 23, 3) := by decide +kernel
theorem dL_law_283 : decode cL_law 283 = .ok (.aload_n 2, 1) := by decide +kernel
theorem dL_law_284 : decode cL_law 284 = .ok (.aload_n 0, 1) := by decide +kernel
theorem dL_law_285 : decode cL_law 285 = .ok (.iload_n 3, 1) := by decide +kernel
theorem dL_law_286 : decode cL_law 286 = .ok (.iconst 1, 1) := by decide +kernel
theorem dL_law_287 : decode cL_law 287 = .ok (.iadd, 1) := by decide +kernel
theorem dL_law_288 : decode cL_law 288 = .ok (.iaload, 1) := by decide +kernel
theorem dL_law_289 : decode cL_law 289 = .ok (.aload_n 0, 1) := by decide +kernel
theorem dL_law_290 : decode cL_law 290 = .ok (.iload_n 3, 1) := by decide +kernel
theorem dL_law_291 : decode cL_law 291 = .ok (.iconst 2, 1) := by decide +kernel
theorem dL_law_292 : decode cL_law 292 = .ok (.iadd, 1) := by decide +kernel
theorem dL_law_293 : decode cL_law 293 = .ok (.iaload, 1) := by decide +kernel
theorem dL_law_294 : decode cL_law 294 = .ok (.aload_n 0, 1) := by decide +kernel
theorem dL_law_295 : decode cL_law 295 = .ok (.iload_n 3, 1) := by decide +kernel
theorem dL_law_296 : decode cL_law 296 = .ok (.iconst 3, 1) := by decide +kernel
theorem dL_law_297 : decode cL_law 297 = .ok (.iadd, 1) := by decide +kernel
theorem dL_law_298 : decode cL_law 298 = .ok (.iaload, 1) := by decide +kernel
theorem dL_law_299 : decode cL_law 299 = .ok (.invokevirtual 27, 3) := by decide +kernel
theorem dL_law_302 : decode cL_law 302 = .ok (.if_icmp .eq 816, 3) := by decide +kernel
theorem dL_law_305 : decode cL_law 305 = .ok (.iconst 0, 1) := by decide +kernel
theorem dL_law_306 : decode cL_law 306 = .ok (.ireturn, 1) := by decide +kernel
theorem dL_law_307 : decode cL_law 307 = .ok (.aload_n 1, 1) := by decide +kernel
theorem dL_law_308 : decode cL_law 308 = .ok (.aload_n 0, 1) := by decide +kernel
theorem dL_law_309 : decode cL_law 309 = .ok (.iload_n 3, 1) := by decide +kernel
theorem dL_law_310 : decode cL_law 310 = .ok (.iconst 1, 1) := by decide +kernel
theorem dL_law_311 : decode cL_law 311 = .ok (.iadd, 1) := by decide +kernel
theorem dL_law_312 : decode cL_law 312 = .ok (.iaload, 1) := by decide +kernel
theorem dL_law_313 : decode cL_law 313 = .ok (.invokevirtual 28, 3) := by decide +kernel
theorem dL_law_316 : decode cL_law 316 = .ok (.aload_n 2, 1) := by decide +kernel
theorem dL_law_317 : decode cL_law 317 = .ok (.aload_n 0, 1) := by decide +kernel
theorem dL_law_318 : decode cL_law 318 = .ok (.iload_n 3, 1) := by decide +kernel
theorem dL_law_319 : decode cL_law 319 = .ok (.iconst 1, 1) := by decide +kernel
theorem dL_law_320 : decode cL_law 320 = .ok (.iadd, 1) := by decide +kernel
theorem dL_law_321 : decode cL_law 321 = .ok (.iaload, 1) := by decide +kernel
theorem dL_law_322 : decode cL_law 322 = .ok (.invokevirtual 32, 3) := by decide +kernel
theorem dL_law_325 : decode cL_law 325 = .ok (.if_icmp .eq 793, 3) := by decide +kernel
theorem dL_law_328 : decode cL_law 328 = .ok (.iconst 0, 1) := by decide +kernel
theorem dL_law_329 : decode cL_law 329 = .ok (.ireturn, 1) := by decide +kernel
theorem dL_law_330 : decode cL_law 330 = .ok (.aload_n 1, 1) := by decide +kernel
theorem dL_law_331 : decode cL_law 331 = .ok (.aload_n 0, 1) := by decide +kernel
theorem dL_law_332 : decode cL_law 332 = .ok (.iload_n 3, 1) := by decide +kernel
theorem dL_law_333 : decode cL_law 333 = .ok (.iconst 1, 1) := by decide +kernel
theorem dL_law_334 : decode cL_law 334 = .ok (.iadd, 1) := by decide +kernel
theorem dL_law_335 : decode cL_law 335 = .ok (.iaload, 1) := by decide +kernel
theorem dL_law_336 : decode cL_law 336 = .ok (.aload_n 0, 1) := by decide +kernel
theorem dL_law_337 : decode cL_law 337 = .ok (.iload_n 3, 1) := by decide +kernel
theorem dL_law_338 : decode cL_law 338 = .ok (.iconst 2, 1) := by decide +kernel
theorem dL_law_339 : decode cL_law 339 = .ok (.iadd, 1) := by decide +kernel
theorem dL_law_340 : decode cL_law 340 = .ok (.iaload, 1) := by decide +kernel
theorem dL_law_341 : decode cL_law 341 = .ok (.invokevirtual 33, 3) := by decide +kernel
theorem dL_law_344 : decode cL_law 344 = .ok (.aload_n 2, 1) := by decide +kernel
theorem dL_law_345 : decode cL_law 345 = .ok (.aload_n 0, 1) := by decide +kernel
theorem dL_law_346 : decode cL_law 346 = .ok (.iload_n 3, 1) := by decide +kernel
theorem dL_law_347 : decode cL_law 347 = .ok (.iconst 1, 1) := by decide +kernel
theorem dL_law_348 : decode cL_law 348 = .ok (.iadd, 1) := by decide +kernel
theorem dL_law_349 : decode cL_law 349 = .ok (.iaload, 1) := by decide +kernel
theorem dL_law_350 : decode cL_law 350 = .ok (.aload_n 0, 1) := by decide +kernel
theorem dL_law_351 : decode cL_law 351 = .ok (.iload_n 3, 1) := by decide +kernel
theorem dL_law_352 : decode cL_law 352 = .ok (.iconst 2, 1) := by decide +kernel
theorem dL_law_353 : decode cL_law 353 = .ok (.iadd, 1) := by decide +kernel
theorem dL_law_354 : decode cL_law 354 = .ok (.iaload, 1) := by decide +kernel
theorem dL_law_355 : decode cL_law 355 = .ok (.invokevirtual 37, 3) := by decide +kernel
theorem dL_law_358 : decode cL_law 358 = .ok (.if_icmp .eq 760, 3) := by decide +kernel
theorem dL_law_361 : decode cL_law 361 = .ok (.iconst 0, 1) := by decide +kernel
theorem dL_law_362 : decode cL_law 362 = .ok (.ireturn, 1) := by decide +kernel
theorem dL_law_363 : decode cL_law 363 = .ok (.aload_n 1, 1) := by decide +kernel
theorem dL_law_364 : decode cL_law 364 = .ok (.aload_n 0, 1) := by decide +kernel
theorem dL_law_365 : decode cL_law 365 = .ok (.iload_n 3, 1) := by decide +kernel
theorem dL_law_366 : decode cL_law 366 = .ok (.iconst 1, 1) := by decide +kernel
theorem dL_law_367 : decode cL_law 367 = .ok (.iadd, 1) := by decide +kernel
theorem dL_law_368 : decode cL_law 368 = .ok (.iaload, 1) := by decide +kernel
theorem dL_law_369 : decode cL_law 369 = .ok (.aload_n 0, 1) := by decide +kernel
theorem dL_law_370 : decode cL_law 370 = .ok (.iload_n 3, 1) := by decide +kernel
theorem dL_law_371 : decode cL_law 371 = .ok (.iconst 2, 1) := by decide +kernel
theorem dL_law_372 : decode cL_law 372 = .ok (.iadd, 1) := by decide +kernel
theorem dL_law_373 : decode cL_law 373 = .ok (.iaload, 1) := by decide +kernel
theorem dL_law_374 : decode cL_law 374 = .ok (.aload_n 0, 1) := by decide +kernel
theorem dL_law_375 : decode cL_law 375 = .ok (.iload_n 3, 1) := by decide +kernel
theorem dL_law_376 : decode cL_law 376 = .ok (.iconst 3, 1) := by decide +kernel
theorem dL_law_377 : decode cL_law 377 = .ok (.iadd, 1) := by decide +kernel
theorem dL_law_378 : decode cL_law 378 = .ok (.iaload, 1) := by decide +kernel
theorem dL_law_379 : decode cL_law 379 = .ok (.invokevirtual 38, 3) := by decide +kernel
theorem dL_law_382 : decode cL_law 382 = .ok (.aload_n 2, 1) := by decide +kernel
theorem dL_law_383 : decode cL_law 383 = .ok (.aload_n 0, 1) := by decide +kernel
theorem dL_law_384 : decode cL_law 384 = .ok (.iload_n 3, 1) := by decide +kernel
theorem dL_law_385 : decode cL_law 385 = .ok (.iconst 1, 1) := by decide +kernel
theorem dL_law_386 : decode cL_law 386 = .ok (.iadd, 1) := by decide +kernel
theorem dL_law_387 : decode cL_law 387 = .ok (.iaload, 1) := by decide +kernel
theorem dL_law_388 : decode cL_law 388 = .ok (.aload_n 0, 1) := by decide +kernel
theorem dL_law_389 : decode cL_law 389 = .ok (.iload_n 3, 1) := by decide +kernel
theorem dL_law_390 : decode cL_law 390 = .ok (.iconst 2, 1) := by decide +kernel
theorem dL_law_391 : decode cL_law 391 = .ok (.iadd, 1) := by decide +kernel
theorem dL_law_392 : decode cL_law 392 = .ok (.iaload, 1) := by decide +kernel
theorem dL_law_393 : decode cL_law 393 = .ok (.aload_n 0, 1) := by decide +kernel
theorem dL_law_394 : decode cL_law 394 = .ok (.iload_n 3, 1) := by decide +kernel
theorem dL_law_395 : decode cL_law 395 = .ok (.iconst 3, 1) := by decide +kernel
theorem dL_law_396 : decode cL_law 396 = .ok (.iadd, 1) := by decide +kernel
theorem dL_law_397 : decode cL_law 397 = .ok (.iaload, 1) := by decide +kernel
theorem dL_law_398 : decode cL_law 398 = .ok (.invokevirtual 41, 3) := by decide +kernel
theorem dL_law_401 : decode cL_law 401 = .ok (.if_icmp .eq 717, 3) := by decide +kernel
theorem dL_law_404 : decode cL_law 404 = .ok (.iconst 0, 1) := by decide +kernel
theorem dL_law_405 : decode cL_law 405 = .ok (.ireturn, 1) := by decide +kernel
theorem dL_law_406 : decode cL_law 406 = .ok (.aload_n 1, 1) := by decide +kernel
theorem dL_law_407 : decode cL_law 407 = .ok (.aload_n 0, 1) := by decide +kernel
theorem dL_law_408 : decode cL_law 408 = .ok (.iload_n 3, 1) := by decide +kernel
theorem dL_law_409 : decode cL_law 409 = .ok (.iconst 1, 1) := by decide +kernel
theorem dL_law_410 : decode cL_law 410 = .ok (.iadd, 1) := by decide +kernel
theorem dL_law_411 : decode cL_law 411 = .ok (.iaload, 1) := by decide +kernel
theorem dL_law_412 : decode cL_law 412 = .ok (.invokevirtual 42, 3) := by decide +kernel
theorem dL_law_415 : decode cL_law 415 = .ok (.aload_n 2, 1) := by decide +kernel
theorem dL_law_416 : decode cL_law 416 = .ok (.aload_n 0, 1) := by decide +kernel
theorem dL_law_417 : decode cL_law 417 = .ok (.iload_n 3, 1) := by decide +kernel
theorem dL_law_418 : decode cL_law 418 = .ok (.iconst 1, 1) := by decide +kernel
theorem dL_law_419 : decode cL_law 419 = .ok (.iadd, 1) := by decide +kernel
theorem dL_law_420 : decode cL_law 420 = .ok (.iaload, 1) := by decide +kernel
theorem dL_law_421 : decode cL_law 421 = .ok (.invokevirtual 45, 3) := by decide +kernel
theorem dL_law_424 : decode cL_law 424 = .ok (.if_icmp .eq 694, 3) := by decide +kernel
theorem dL_law_427 : decode cL_law 427 = .ok (.iconst 0, 1) := by decide +kernel
theorem dL_law_428 : decode cL_law 428 = .ok (.ireturn, 1) := by decide +kernel
theorem dL_law_429 : decode cL_law 429 = .ok (.aload_n 1, 1) := by decide +kernel
theorem dL_law_430 : decode cL_law 430 = .ok (.aload_n 0, 1) := by decide +kernel
theorem dL_law_431 : decode cL_law 431 = .ok (.iload_n 3, 1) := by decide +kernel
theorem dL_law_432 : decode cL_law 432 = .ok (.iconst 1, 1) := by decide +kernel
theorem dL_law_433 : decode cL_law 433 = .ok (.iadd, 1) := by decide +kernel
theorem dL_law_434 : decode cL_law 434 = .ok (.iaload, 1) := by decide +kernel
theorem dL_law_435 : decode cL_law 435 = .ok (.aload_n 0, 1) := by decide +kernel
theorem dL_law_436 : decode cL_law 436 = .ok (.iload_n 3, 1) := by decide +kernel
theorem dL_law_437 : decode cL_law 437 = .ok (.iconst 2, 1) := by decide +kernel
theorem dL_law_438 : decode cL_law 438 = .ok (.iadd, 1) := by decide +kernel
theorem dL_law_439 : decode cL_law 439 = .ok (.iaload, 1) := by decide +kernel
theorem dL_law_440 : decode cL_law 440 = .ok (.i2l, 1) := by decide +kernel
theorem dL_law_441 : decode cL_law 441 = .ok (.bipush 32, 2) := by decide +kernel
theorem dL_law_443 : decode cL_law 443 = .ok (.lshl, 1) := by decide +kernel
theorem dL_law_444 : decode cL_law 444 = .ok (.aload_n 0, 1) := by decide +kernel
theorem dL_law_445 : decode cL_law 445 = .ok (.iload_n 3, 1) := by decide +kernel
theorem dL_law_446 : decode cL_law 446 = .ok (.iconst 3, 1) := by decide +kernel
theorem dL_law_447 : decode cL_law 447 = .ok (.iadd, 1) := by decide +kernel
theorem dL_law_448 : decode cL_law 448 = .ok (.iaload, 1) := by decide +kernel
theorem dL_law_449 : decode cL_law 449 = .ok (.i2l, 1) := by decide +kernel
theorem dL_law_450 : decode cL_law 450 = .ok (.ldc2_w 46, 3) := by decide +kernel
theorem dL_law_453 : decode cL_law 453 = .ok (.land, 1) := by decide +kernel
theorem dL_law_454 : decode cL_law 454 = .ok (.lor, 1) := by decide +kernel
theorem dL_law_455 : decode cL_law 455 = .ok (.invokevirtual 48, 3) := by decide +kernel
theorem dL_law_458 : decode cL_law 458 = .ok (.aload_n 2, 1) := by decide +kernel
theorem dL_law_459 : decode cL_law 459 = .ok (.aload_n 0, 1) := by decide +kernel
theorem dL_law_460 : decode cL_law 460 = .ok (.iload_n 3, 1) := by decide +kernel
theorem dL_law_461 : decode cL_law 461 = .ok (.iconst 1, 1) := by decide +kernel
theorem dL_law_462 : decode cL_law 462 = .ok (.iadd, 1) := by decide +kernel
theorem dL_law_463 : decode cL_law 463 = .ok (.iaload, 1) := by decide +kernel
theorem dL_law_464 : decode cL_law 464 = .ok (.aload_n 0, 1) := by decide +kernel
theorem dL_law_465 : decode cL_law 465 = .ok (.iload_n 3, 1) := by decide +kernel
theorem dL_law_466 : decode cL_law 466 = .ok (.iconst 2, 1) := by decide +kernel
theorem dL_law_467 : decode cL_law 467 = .ok (.iadd, 1) := by decide +kernel
theorem dL_law_468 : decode cL_law 468 = .ok (.iaload, 1) := by decide +kernel
theorem dL_law_469 : decode cL_law 469 = .ok (.i2l, 1) := by decide +kernel
theorem dL_law_470 : decode cL_law 470 = .ok (.bipush 32, 2) := by decide +kernel
theorem dL_law_472 : decode cL_law 472 = .ok (.lshl, 1) := by decide +kernel
theorem dL_law_473 : decode cL_law 473 = .ok (.aload_n 0, 1) := by decide +kernel
theorem dL_law_474 : decode cL_law 474 = .ok (.iload_n 3, 1) := by decide +kernel
theorem dL_law_475 : decode cL_law 475 = .ok (.iconst 3, 1) := by decide +kernel
theorem dL_law_476 : decode cL_law 476 = .ok (.iadd, 1) := by decide +kernel
theorem dL_law_477 : decode cL_law 477 = .ok (.iaload, 1) := by decide +kernel
theorem dL_law_478 : decode cL_law 478 = .ok (.i2l, 1) := by decide +kernel
theorem dL_law_479 : decode cL_law 479 = .ok (.ldc2_w 46, 3) := by decide +kernel
theorem dL_law_482 : decode cL_law 482 = .ok (.land, 1) := by decide +kernel
theorem dL_law_483 : decode cL_law 483 = .ok (.lor, 1) := by decide +kernel
theorem dL_law_484 : decode cL_law 484 = .ok (.invokevirtual 52, 3) := by decide +kernel
theorem dL_law_487 : decode cL_law 487 = .ok (.if_icmp .eq 631, 3) := by decide +kernel
theorem dL_law_490 : decode cL_law 490 = .ok (.iconst 0, 1) := by decide +kernel
theorem dL_law_491 : decode cL_law 491 = .ok (.ireturn, 1) := by decide +kernel
theorem dL_law_492 : decode cL_law 492 = .ok (.aload_n 1, 1) := by decide +kernel
theorem dL_law_493 : decode cL_law 493 = .ok (.aload_n 0, 1) := by decide +kernel
theorem dL_law_494 : decode cL_law 494 = .ok (.iload_n 3, 1) := by decide +kernel
theorem dL_law_495 : decode cL_law 495 = .ok (.iconst 1, 1) := by decide +kernel
theorem dL_law_496 : decode cL_law 496 = .ok (.iadd, 1) := by decide +kernel
theorem dL_law_497 : decode cL_law 497 = .ok (.iaload, 1) := by decide +kernel
theorem dL_law_498 : decode cL_law 498 = .ok (.invokevirtual 53, 3) := by decide +kernel
theorem dL_law_501 : decode cL_law 501 = .ok (.aload_n 2, 1) := by decide +kernel
theorem dL_law_502 : decode cL_law 502 = .ok (.aload_n 0, 1) := by decide +kernel
theorem dL_law_503 : decode cL_law 503 = .ok (.iload_n 3, 1) := by decide +kernel
theorem dL_law_504 : decode cL_law 504 = .ok (.iconst 1, 1) := by decide +kernel
theorem dL_law_505 : decode cL_law 505 = .ok (.iadd, 1) := by decide +kernel
theorem dL_law_506 : decode cL_law 506 = .ok (.iaload, 1) := by decide +kernel
theorem dL_law_507 : decode cL_law 507 = .ok (.invokevirtual 56, 3) := by decide +kernel
theorem dL_law_510 : decode cL_law 510 = .ok (.if_icmp .eq 608, 3) := by decide +kernel
theorem dL_law_513 : decode cL_law 513 = .ok (.iconst 0, 1) := by decide +kernel
theorem dL_law_514 : decode cL_law 514 = .ok (.ireturn, 1) := by decide +kernel
theorem dL_law_515 : decode cL_law 515 = .ok (.aload_n 1, 1) := by decide +kernel
theorem dL_law_516 : decode cL_law 516 = .ok (.invokevirtual 57, 3) := by decide +kernel
theorem dL_law_519 : decode cL_law 519 = .ok (.aload_n 2, 1) := by decide +kernel
theorem dL_law_520 : decode cL_law 520 = .ok (.invokevirtual 60, 3) := by decide +kernel
theorem dL_law_523 : decode cL_law 523 = .ok (.if_icmp .eq 595, 3) := by decide +kernel
theorem dL_law_526 : decode cL_law 526 = .ok (.iconst 0, 1) := by decide +kernel
theorem dL_law_527 : decode cL_law 527 = .ok (.ireturn, 1) := by decide +kernel
theorem dL_law_528 : decode cL_law 528 = .ok (.aload_n 1, 1) := by decide +kernel
theorem dL_law_529 : decode cL_law 529 = .ok (.aload_n 0, 1) := by decide +kernel
theorem dL_law_530 : decode cL_law 530 = .ok (.iload_n 3, 1) := by decide +kernel
theorem dL_law_531 : decode cL_law 531 = .ok (.iconst 1, 1) := by decide +kernel
theorem dL_law_532 : decode cL_law 532 = .ok (.iadd, 1) := by decide +kernel
theorem dL_law_533 : decode cL_law 533 = .ok (.iaload, 1) := by decide +kernel
theorem dL_law_534 : decode cL_law 534 = .ok (.aload_n 0, 1) := by decide +kernel
theorem dL_law_535 : decode cL_law 535 = .ok (.iload_n 3, 1) := by decide +kernel
theorem dL_law_536 : decode cL_law 536 = .ok (.iconst 2, 1) := by decide +kernel
theorem dL_law_537 : decode cL_law 537 = .ok (.iadd, 1) := by decide +kernel
theorem dL_law_538 : decode cL_law 538 = .ok (.iaload, 1) := by decide +kernel
theorem dL_law_539 : decode cL_law 539 = .ok (.invokevirtual 61, 3) := by decide +kernel
theorem dL_law_542 : decode cL_law 542 = .ok (.aload_n 2, 1) := by decide +kernel
theorem dL_law_543 : decode cL_law 543 = .ok (.aload_n 0, 1) := by decide +kernel
theorem dL_law_544 : decode cL_law 544 = .ok (.iload_n 3, 1) := by decide +kernel
theorem dL_law_545 : decode cL_law 545 = .ok (.iconst 1, 1) := by decide +kernel
theorem dL_law_546 : decode cL_law 546 = .ok (.iadd, 1) := by decide +kernel
theorem dL_law_547 : decode cL_law 547 = .ok (.iaload, 1) := by decide +kernel
theorem dL_law_548 : decode cL_law 548 = .ok (.aload_n 0, 1) := by decide +kernel
theorem dL_law_549 : decode cL_law 549 = .ok (.iload_n 3, 1) := by decide +kernel
theorem dL_law_550 : decode cL_law 550 = .ok (.iconst 2, 1) := by decide +kernel
theorem dL_law_551 : decode cL_law 551 = .ok (.iadd, 1) := by decide +kernel
theorem dL_law_552 : decode cL_law 552 = .ok (.iaload, 1) := by decide +kernel
theorem dL_law_553 : decode cL_law 553 = .ok (.invokevirtual 64, 3) := by decide +kernel
theorem dL_law_556 : decode cL_law 556 = .ok (.if_icmp .eq 562, 3) := by decide +kernel
theorem dL_law_559 : decode cL_law 559 = .ok (.iconst 0, 1) := by decide +kernel
theorem dL_law_560 : decode cL_law 560 = .ok (.ireturn, 1) := by decide +kernel
theorem dL_law_561 : decode cL_law 561 = .ok (.aload_n 1, 1) := by decide +kernel
theorem dL_law_562 : decode cL_law 562 = .ok (.aload_n 0, 1) := by decide +kernel
theorem dL_law_563 : decode cL_law 563 = .ok (.iload_n 3, 1) := by decide +kernel
theorem dL_law_564 : decode cL_law 564 = .ok (.iconst 1, 1) := by decide +kernel
theorem dL_law_565 : decode cL_law 565 = .ok (.iadd, 1) := by decide +kernel
theorem dL_law_566 : decode cL_law 566 = .ok (.iaload, 1) := by decide +kernel
theorem dL_law_567 : decode cL_law 567 = .ok (.aload_n 0, 1) := by decide +kernel
theorem dL_law_568 : decode cL_law 568 = .ok (.iload_n 3, 1) := by decide +kernel
theorem dL_law_569 : decode cL_law 569 = .ok (.iconst 2, 1) := by decide +kernel
theorem dL_law_570 : decode cL_law 570 = .ok (.iadd, 1) := by decide +kernel
theorem dL_law_571 : decode cL_law 571 = .ok (.iaload, 1) := by decide +kernel
theorem dL_law_572 : decode cL_law 572 = .ok (.invokevirtual 65, 3) := by decide +kernel
theorem dL_law_575 : decode cL_law 575 = .ok (.aload_n 2, 1) := by decide +kernel
theorem dL_law_576 : decode cL_law 576 = .ok (.aload_n 0, 1) := by decide +kernel
theorem dL_law_577 : decode cL_law 577 = .ok (.iload_n 3, 1) := by decide +kernel
theorem dL_law_578 : decode cL_law 578 = .ok (.iconst 1, 1) := by decide +kernel
theorem dL_law_579 : decode cL_law 579 = .ok (.iadd, 1) := by decide +kernel
theorem dL_law_580 : decode cL_law 580 = .ok (.iaload, 1) := by decide +kernel
theorem dL_law_581 : decode cL_law 581 = .ok (.aload_n 0, 1) := by decide +kernel
theorem dL_law_582 : decode cL_law 582 = .ok (.iload_n 3, 1) := by decide +kernel
theorem dL_law_583 : decode cL_law 583 = .ok (.iconst 2, 1) := by decide +kernel
theorem dL_law_584 : decode cL_law 584 = .ok (.iadd, 1) := by decide +kernel
theorem dL_law_585 : decode cL_law 585 = .ok (.iaload, 1) := by decide +kernel
theorem dL_law_586 : decode cL_law 586 = .ok (.invokevirtual 68, 3) := by decide +kernel
theorem dL_law_589 : decode cL_law 589 = .ok (.if_icmp .eq 529, 3) := by decide +kernel
theorem dL_law_592 : decode cL_law 592 = .ok (.iconst 0, 1) := by decide +kernel
theorem dL_law_593 : decode cL_law 593 = .ok (.ireturn, 1) := by decide +kernel
theorem dL_law_594 : decode cL_law 594 = .ok (.aload_n 1, 1) := by decide +kernel
theorem dL_law_595 : decode cL_law 595 = .ok (.aload_n 0, 1) := by decide +kernel
theorem dL_law_596 : decode cL_law 596 = .ok (.iload_n 3, 1) := by decide +kernel
theorem dL_law_597 : decode cL_law 597 = .ok (.iconst 1, 1) := by decide +kernel
theorem dL_law_598 : decode cL_law 598 = .ok (.iadd, 1) := by decide +kernel
theorem dL_law_599 : decode cL_law 599 = .ok (.iaload, 1) := by decide +kernel
theorem dL_law_600 : decode cL_law 600 = .ok (.aload_n 0, 1) := by decide +kernel
theorem dL_law_601 : decode cL_law 601 = .ok (.iload_n 3, 1) := by decide +kernel
theorem dL_law_602 : decode cL_law 602 = .ok (.iconst 2, 1) := by decide +kernel
theorem dL_law_603 : decode cL_law 603 = .ok (.iadd, 1) := by decide +kernel
theorem dL_law_604 : decode cL_law 604 = .ok (.iaload, 1) := by decide +kernel
theorem dL_law_605 : decode cL_law 605 = .ok (.aload_n 0, 1) := by decide +kernel
theorem dL_law_606 : decode cL_law 606 = .ok (.iload_n 3, 1) := by decide +kernel
theorem dL_law_607 : decode cL_law 607 = .ok (.iconst 3, 1) := by decide +kernel
theorem dL_law_608 : decode cL_law 608 = .ok (.iadd, 1) := by decide +kernel
theorem dL_law_609 : decode cL_law 609 = .ok (.iaload, 1) := by decide +kernel
theorem dL_law_610 : decode cL_law 610 = .ok (.aload_n 0, 1) := by decide +kernel
theorem dL_law_611 : decode cL_law 611 = .ok (.iload_n 3, 1) := by decide +kernel
theorem dL_law_612 : decode cL_law 612 = .ok (.iconst 4, 1) := by decide +kernel
theorem dL_law_613 : decode cL_law 613 = .ok (.iadd, 1) := by decide +kernel
theorem dL_law_614 : decode cL_law 614 = .ok (.iaload, 1) := by decide +kernel
theorem dL_law_615 : decode cL_law 615 = .ok (.invokevirtual 69, 3) := by decide +kernel
theorem dL_law_618 : decode cL_law 618 = .ok (.aload_n 2, 1) := by decide +kernel
theorem dL_law_619 : decode cL_law 619 = .ok (.aload_n 0, 1) := by decide +kernel
theorem dL_law_620 : decode cL_law 620 = .ok (.iload_n 3, 1) := by decide +kernel
theorem dL_law_621 : decode cL_law 621 = .ok (.iconst 1, 1) := by decide +kernel
theorem dL_law_622 : decode cL_law 622 = .ok (.iadd, 1) := by decide +kernel
theorem dL_law_623 : decode cL_law 623 = .ok (.iaload, 1) := by decide +kernel
theorem dL_law_624 : decode cL_law 624 = .ok (.aload_n 0, 1) := by decide +kernel
theorem dL_law_625 : decode cL_law 625 = .ok (.iload_n 3, 1) := by decide +kernel
theorem dL_law_626 : decode cL_law 626 = .ok (.iconst 2, 1) := by decide +kernel
theorem dL_law_627 : decode cL_law 627 = .ok (.iadd, 1) := by decide +kernel
theorem dL_law_628 : decode cL_law 628 = .ok (.iaload, 1) := by decide +kernel
theorem dL_law_629 : decode cL_law 629 = .ok (.aload_n 0, 1) := by decide +kernel
theorem dL_law_630 : decode cL_law 630 = .ok (.iload_n 3, 1) := by decide +kernel
theorem dL_law_631 : decode cL_law 631 = .ok (.iconst 3, 1) := by decide +kernel
theorem dL_law_632 : decode cL_law 632 = .ok (.iadd, 1) := by decide +kernel
theorem dL_law_633 : decode cL_law 633 = .ok (.iaload, 1) := by decide +kernel
theorem dL_law_634 : decode cL_law 634 = .ok (.aload_n 0, 1) := by decide +kernel
theorem dL_law_635 : decode cL_law 635 = .ok (.iload_n 3, 1) := by decide +kernel
theorem dL_law_636 : decode cL_law 636 = .ok (.iconst 4, 1) := by decide +kernel
theorem dL_law_637 : decode cL_law 637 = .ok (.iadd, 1) := by decide +kernel
theorem dL_law_638 : decode cL_law 638 = .ok (.iaload, 1) := by decide +kernel
theorem dL_law_639 : decode cL_law 639 = .ok (.invokevirtual 73, 3) := by decide +kernel
theorem dL_law_642 : decode cL_law 642 = .ok (.if_icmp .eq 476, 3) := by decide +kernel
theorem dL_law_645 : decode cL_law 645 = .ok (.iconst 0, 1) := by decide +kernel
theorem dL_law_646 : decode cL_law 646 = .ok (.ireturn, 1) := by decide +kernel
theorem dL_law_647 : decode cL_law 647 = .ok (.aload_n 1, 1) := by decide +kernel
theorem dL_law_648 : decode cL_law 648 = .ok (.aload_n 0, 1) := by decide +kernel
theorem dL_law_649 : decode cL_law 649 = .ok (.iload_n 3, 1) := by decide +kernel
theorem dL_law_650 : decode cL_law 650 = .ok (.iconst 1, 1) := by decide +kernel
theorem dL_law_651 : decode cL_law 651 = .ok (.iadd, 1) := by decide +kernel
theorem dL_law_652 : decode cL_law 652 = .ok (.iaload, 1) := by decide +kernel
theorem dL_law_653 : decode cL_law 653 = .ok (.aload_n 0, 1) := by decide +kernel
theorem dL_law_654 : decode cL_law 654 = .ok (.iload_n 3, 1) := by decide +kernel
theorem dL_law_655 : decode cL_law 655 = .ok (.iconst 2, 1) := by decide +kernel
theorem dL_law_656 : decode cL_law 656 = .ok (.iadd, 1) := by decide +kernel
theorem dL_law_657 : decode cL_law 657 = .ok (.iaload, 1) := by decide +kernel
theorem dL_law_658 : decode cL_law 658 = .ok (.invokevirtual 74, 3) := by decide +kernel
theorem dL_law_661 : decode cL_law 661 = .ok (.aload_n 2, 1) := by decide +kernel
theorem dL_law_662 : decode cL_law 662 = .ok (.aload_n 0, 1) := by decide +kernel
theorem dL_law_663 : decode cL_law 663 = .ok (.iload_n 3, 1) := by decide +kernel
theorem dL_law_664 : decode cL_law 664 = .ok (.iconst 1, 1) := by decide +kernel
theorem dL_law_665 : decode cL_law 665 = .ok (.iadd, 1) := by decide +kernel
theorem dL_law_666 : decode cL_law 666 = .ok (.iaload, 1) := by decide +kernel
theorem dL_law_667 : decode cL_law 667 = .ok (.aload_n 0, 1) := by decide +kernel
theorem dL_law_668 : decode cL_law 668 = .ok (.iload_n 3, 1) := by decide +kernel
theorem dL_law_669 : decode cL_law 669 = .ok (.iconst 2, 1) := by decide +kernel
theorem dL_law_670 : decode cL_law 670 = .ok (.iadd, 1) := by decide +kernel
theorem dL_law_671 : decode cL_law 671 = .ok (.iaload, 1) := by decide +kernel
theorem dL_law_672 : decode cL_law 672 = .ok (.invokevirtual 77, 3) := by decide +kernel
theorem dL_law_675 : decode cL_law 675 = .ok (.if_icmp .eq 443, 3) := by decide +kernel
theorem dL_law_678 : decode cL_law 678 = .ok (.iconst 0, 1) := by decide +kernel
theorem dL_law_679 : decode cL_law 679 = .ok (.ireturn, 1) := by decide +kernel
theorem dL_law_680 : decode cL_law 680 = .ok (.aload_n 1, 1) := by decide +kernel
theorem dL_law_681 : decode cL_law 681 = .ok (.aload_n 0, 1) := by decide +kernel
theorem dL_law_682 : decode cL_law 682 = .ok (.iload_n 3, 1) := by decide +kernel
theorem dL_law_683 : decode cL_law 683 = .ok (.iconst 1, 1) := by decide +kernel
theorem dL_law_684 : decode cL_law 684 = .ok (.iadd, 1) := by decide +kernel
theorem dL_law_685 : decode cL_law 685 = .ok (.iaload, 1) := by decide +kernel
theorem dL_law_686 : decode cL_law 686 = .ok (.aload_n 0, 1) := by decide +kernel
theorem dL_law_687 : decode cL_law 687 = .ok (.iload_n 3, 1) := by decide +kernel
theorem dL_law_688 : decode cL_law 688 = .ok (.iconst 2, 1) := by decide +kernel
theorem dL_law_689 : decode cL_law 689 = .ok (.iadd, 1) := by decide +kernel
theorem dL_law_690 : decode cL_law 690 = .ok (.iaload, 1) := by decide +kernel
theorem dL_law_691 : decode cL_law 691 = .ok (.invokevirtual 78, 3) := by decide +kernel
theorem dL_law_694 : decode cL_law 694 = .ok (.aload_n 2, 1) := by decide +kernel
theorem dL_law_695 : decode cL_law 695 = .ok (.aload_n 0, 1) := by decide +kernel
theorem dL_law_696 : decode cL_law 696 = .ok (.iload_n 3, 1) := by decide +kernel
theorem dL_law_697 : decode cL_law 697 = .ok (.iconst 1, 1) := by decide +kernel
theorem dL_law_698 : decode cL_law 698 = .ok (.iadd, 1) := by decide +kernel
theorem dL_law_699 : decode cL_law 699 = .ok (.iaload, 1) := by decide +kernel
theorem dL_law_700 : decode cL_law 700 = .ok (.aload_n 0, 1) := by decide +kernel
theorem dL_law_701 : decode cL_law 701 = .ok (.iload_n 3, 1) := by decide +kernel
theorem dL_law_702 : decode cL_law 702 = .ok (.iconst 2, 1) := by decide +kernel
theorem dL_law_703 : decode cL_law 703 = .ok (.iadd, 1) := by decide +kernel
theorem dL_law_704 : decode cL_law 704 = .ok (.iaload, 1) := by decide +kernel
theorem dL_law_705 : decode cL_law 705 = .ok (.invokevirtual 81, 3) := by decide +kernel
theorem dL_law_708 : decode cL_law 708 = .ok (.if_icmp .eq 410, 3) := by decide +kernel
theorem dL_law_711 : decode cL_law 711 = .ok (.iconst 0, 1) := by decide +kernel
theorem dL_law_712 : decode cL_law 712 = .ok (.ireturn, 1) := by decide +kernel
theorem dL_law_713 : decode cL_law 713 = .ok (.aload_n 1, 1) := by decide +kernel
theorem dL_law_714 : decode cL_law 714 = .ok (.aload_n 0, 1) := by decide +kernel
theorem dL_law_715 : decode cL_law 715 = .ok (.iload_n 3, 1) := by decide +kernel
theorem dL_law_716 : decode cL_law 716 = .ok (.iconst 1, 1) := by decide +kernel
theorem dL_law_717 : decode cL_law 717 = .ok (.iadd, 1) := by decide +kernel
theorem dL_law_718 : decode cL_law 718 = .ok (.iaload, 1) := by decide +kernel
theorem dL_law_719 : decode cL_law 719 = .ok (.aload_n 0, 1) := by decide +kernel
theorem dL_law_720 : decode cL_law 720 = .ok (.iload_n 3, 1) := by decide +kernel
theorem dL_law_721 : decode cL_law 721 = .ok (.iconst 2, 1) := by decide +kernel
theorem dL_law_722 : decode cL_law 722 = .ok (.iadd, 1) := by decide +kernel
theorem dL_law_723 : decode cL_law 723 = .ok (.iaload, 1) := by decide +kernel
theorem dL_law_724 : decode cL_law 724 = .ok (.aload_n 0, 1) := by decide +kernel
theorem dL_law_725 : decode cL_law 725 = .ok (.iload_n 3, 1) := by decide +kernel
theorem dL_law_726 : decode cL_law 726 = .ok (.iconst 3, 1) := by decide +kernel
theorem dL_law_727 : decode cL_law 727 = .ok (.iadd, 1) := by decide +kernel
theorem dL_law_728 : decode cL_law 728 = .ok (.iaload, 1) := by decide +kernel
theorem dL_law_729 : decode cL_law 729 = .ok (.aload_n 0, 1) := by decide +kernel
theorem dL_law_730 : decode cL_law 730 = .ok (.iload_n 3, 1) := by decide +kernel
theorem dL_law_731 : decode cL_law 731 = .ok (.iconst 4, 1) := by decide +kernel
theorem dL_law_732 : decode cL_law 732 = .ok (.iadd, 1) := by decide +kernel
theorem dL_law_733 : decode cL_law 733 = .ok (.iaload, 1) := by decide +kernel
theorem dL_law_734 : decode cL_law 734 = .ok (.aload_n 0, 1) := by decide +kernel
theorem dL_law_735 : decode cL_law 735 = .ok (.iload_n 3, 1) := by decide +kernel
theorem dL_law_736 : decode cL_law 736 = .ok (.iconst 5, 1) := by decide +kernel
theorem dL_law_737 : decode cL_law 737 = .ok (.iadd, 1) := by decide +kernel
theorem dL_law_738 : decode cL_law 738 = .ok (.iaload, 1) := by decide +kernel
theorem dL_law_739 : decode cL_law 739 = .ok (.aload_n 0, 1) := by decide +kernel
theorem dL_law_740 : decode cL_law 740 = .ok (.iload_n 3, 1) := by decide +kernel
theorem dL_law_741 : decode cL_law 741 = .ok (.bipush 6, 2) := by decide +kernel
theorem dL_law_743 : decode cL_law 743 = .ok (.iadd, 1) := by decide +kernel
theorem dL_law_744 : decode cL_law 744 = .ok (.iaload, 1) := by decide +kernel
theorem dL_law_745 : decode cL_law 745 = .ok (.aload_n 0, 1) := by decide +kernel
theorem dL_law_746 : decode cL_law 746 = .ok (.iload_n 3, 1) := by decide +kernel
theorem dL_law_747 : decode cL_law 747 = .ok (.bipush 7, 2) := by decide +kernel
theorem dL_law_749 : decode cL_law 749 = .ok (.iadd, 1) := by decide +kernel
theorem dL_law_750 : decode cL_law 750 = .ok (.iaload, 1) := by decide +kernel
theorem dL_law_751 : decode cL_law 751 = .ok (.invokevirtual 82, 3) := by decide +kernel
theorem dL_law_754 : decode cL_law 754 = .ok (.aload_n 2, 1) := by decide +kernel
theorem dL_law_755 : decode cL_law 755 = .ok (.aload_n 0, 1) := by decide +kernel
theorem dL_law_756 : decode cL_law 756 = .ok (.iload_n 3, 1) := by decide +kernel
theorem dL_law_757 : decode cL_law 757 = .ok (.iconst 1, 1) := by decide +kernel
theorem dL_law_758 : decode cL_law 758 = .ok (.iadd, 1) := by decide +kernel
theorem dL_law_759 : decode cL_law 759 = .ok (.iaload, 1) := by decide +kernel
theorem dL_law_760 : decode cL_law 760 = .ok (.aload_n 0, 1) := by decide +kernel
theorem dL_law_761 : decode cL_law 761 = .ok (.iload_n 3, 1) := by decide +kernel
theorem dL_law_762 : decode cL_law 762 = .ok (.iconst 2, 1) := by decide +kernel
theorem dL_law_763 : decode cL_law 763 = .ok (.iadd, 1) := by decide +kernel
theorem dL_law_764 : decode cL_law 764 = .ok (.iaload, 1) := by decide +kernel
theorem dL_law_765 : decode cL_law 765 = .ok (.aload_n 0, 1) := by decide +kernel
theorem dL_law_766 : decode cL_law 766 = .ok (.iload_n 3, 1) := by decide +kernel
theorem dL_law_767 : decode cL_law 767 = .ok (.iconst 3, 1) := by decide +kernel
theorem dL_law_768 : decode cL_law 768 = .ok (.iadd, 1) := by decide +kernel
theorem dL_law_769 : decode cL_law 769 = .ok (.iaload, 1) := by decide +kernel
theorem dL_law_770 : decode cL_law 770 = .ok (.aload_n 0, 1) := by decide +kernel
theorem dL_law_771 : decode cL_law 771 = .ok (.iload_n 3, 1) := by decide +kernel
theorem dL_law_772 : decode cL_law 772 = .ok (.iconst 4, 1) := by decide +kernel
theorem dL_law_773 : decode cL_law 773 = .ok (.iadd, 1) := by decide +kernel
theorem dL_law_774 : decode cL_law 774 = .ok (.iaload, 1) := by decide +kernel
theorem dL_law_775 : decode cL_law 775 = .ok (.aload_n 0, 1) := by decide +kernel
theorem dL_law_776 : decode cL_law 776 = .ok (.iload_n 3, 1) := by decide +kernel
theorem dL_law_777 : decode cL_law 777 = .ok (.iconst 5, 1) := by decide +kernel
theorem dL_law_778 : decode cL_law 778 = .ok (.iadd, 1) := by decide +kernel
theorem dL_law_779 : decode cL_law 779 = .ok (.iaload, 1) := by decide +kernel
theorem dL_law_780 : decode cL_law 780 = .ok (.aload_n 0, 1) := by decide +kernel
theorem dL_law_781 : decode cL_law 781 = .ok (.iload_n 3, 1) := by decide +kernel
theorem dL_law_782 : decode cL_law 782 = .ok (.bipush 6, 2) := by decide +kernel
theorem dL_law_784 : decode cL_law 784 = .ok (.iadd, 1) := by decide +kernel
theorem dL_law_785 : decode cL_law 785 = .ok (.iaload, 1) := by decide +kernel
theorem dL_law_786 : decode cL_law 786 = .ok (.aload_n 0, 1) := by decide +kernel
theorem dL_law_787 : decode cL_law 787 = .ok (.iload_n 3, 1) := by decide +kernel
theorem dL_law_788 : decode cL_law 788 = .ok (.bipush 7, 2) := by decide +kernel
theorem dL_law_790 : decode cL_law 790 = .ok (.iadd, 1) := by decide +kernel
theorem dL_law_791 : decode cL_law 791 = .ok (.iaload, 1) := by decide +kernel
theorem dL_law_792 : decode cL_law 792 = .ok (.invokevirtual 86, 3) := by decide +kernel
theorem dL_law_795 : decode cL_law 795 = .ok (.if_icmp .eq 323, 3) := by decide +kernel
theorem dL_law_798 : decode cL_law 798 = .ok (.iconst 0, 1) := by decide +kernel
theorem dL_law_799 : decode cL_law 799 = .ok (.ireturn, 1) := by decide +kernel
theorem dL_law_800 : decode cL_law 800 = .ok (.aload_n 1, 1) := by decide +kernel
theorem dL_law_801 : decode cL_law 801 = .ok (.aload_n 0, 1) := by decide +kernel
theorem dL_law_802 : decode cL_law 802 = .ok (.iload_n 3, 1) := by decide +kernel
theorem dL_law_803 : decode cL_law 803 = .ok (.iconst 1, 1) := by decide +kernel
theorem dL_law_804 : decode cL_law 804 = .ok (.iadd, 1) := by decide +kernel
theorem dL_law_805 : decode cL_law 805 = .ok (.iaload, 1) := by decide +kernel
theorem dL_law_806 : decode cL_law 806 = .ok (.aload_n 0, 1) := by decide +kernel
theorem dL_law_807 : decode cL_law 807 = .ok (.iload_n 3, 1) := by decide +kernel
theorem dL_law_808 : decode cL_law 808 = .ok (.iconst 2, 1) := by decide +kernel
theorem dL_law_809 : decode cL_law 809 = .ok (.iadd, 1) := by decide +kernel
theorem dL_law_810 : decode cL_law 810 = .ok (.iaload, 1) := by decide +kernel
theorem dL_law_811 : decode cL_law 811 = .ok (.aload_n 0, 1) := by decide +kernel
theorem dL_law_812 : decode cL_law 812 = .ok (.iload_n 3, 1) := by decide +kernel
theorem dL_law_813 : decode cL_law 813 = .ok (.iconst 3, 1) := by decide +kernel
theorem dL_law_814 : decode cL_law 814 = .ok (.iadd, 1) := by decide +kernel
theorem dL_law_815 : decode cL_law 815 = .ok (.iaload, 1) := by decide +kernel
theorem dL_law_816 : decode cL_law 816 = .ok (.aload_n 0, 1) := by decide +kernel
theorem dL_law_817 : decode cL_law 817 = .ok (.iload_n 3, 1) := by decide +kernel
theorem dL_law_818 : decode cL_law 818 = .ok (.iconst 4, 1) := by decide +kernel
theorem dL_law_819 : decode cL_law 819 = .ok (.iadd, 1) := by decide +kernel
theorem dL_law_820 : decode cL_law 820 = .ok (.iaload, 1) := by decide +kernel
theorem dL_law_821 : decode cL_law 821 = .ok (.aload_n 0, 1) := by decide +kernel
theorem dL_law_822 : decode cL_law 822 = .ok (.iload_n 3, 1) := by decide +kernel
theorem dL_law_823 : decode cL_law 823 = .ok (.iconst 5, 1) := by decide +kernel
theorem dL_law_824 : decode cL_law 824 = .ok (.iadd, 1) := by decide +kernel
theorem dL_law_825 : decode cL_law 825 = .ok (.iaload, 1) := by decide +kernel
theorem dL_law_826 : decode cL_law 826 = .ok (.invokevirtual 87, 3) := by decide +kernel
theorem dL_law_829 : decode cL_law 829 = .ok (.aload_n 2, 1) := by decide +kernel
theorem dL_law_830 : decode cL_law 830 = .ok (.aload_n 0, 1) := by decide +kernel
theorem dL_law_831 : decode cL_law 831 = .ok (.iload_n 3, 1) := by decide +kernel
theorem dL_law_832 : decode cL_law 832 = .ok (.iconst 1, 1) := by decide +kernel
theorem dL_law_833 : decode cL_law 833 = .ok (.iadd, 1) := by decide +kernel
theorem dL_law_834 : decode cL_law 834 = .ok (.iaload, 1) := by decide +kernel
theorem dL_law_835 : decode cL_law 835 = .ok (.aload_n 0, 1) := by decide +kernel
theorem dL_law_836 : decode cL_law 836 = .ok (.iload_n 3, 1) := by decide +kernel
theorem dL_law_837 : decode cL_law 837 = .ok (.iconst 2, 1) := by decide +kernel
theorem dL_law_838 : decode cL_law 838 = .ok (.iadd, 1) := by decide +kernel
theorem dL_law_839 : decode cL_law 839 = .ok (.iaload, 1) := by decide +kernel
theorem dL_law_840 : decode cL_law 840 = .ok (.aload_n 0, 1) := by decide +kernel
theorem dL_law_841 : decode cL_law 841 = .ok (.iload_n 3, 1) := by decide +kernel
theorem dL_law_842 : decode cL_law 842 = .ok (.iconst 3, 1) := by decide +kernel
theorem dL_law_843 : decode cL_law 843 = .ok (.iadd, 1) := by decide +kernel
theorem dL_law_844 : decode cL_law 844 = .ok (.iaload, 1) := by decide +kernel
theorem dL_law_845 : decode cL_law 845 = .ok (.aload_n 0, 1) := by decide +kernel
theorem dL_law_846 : decode cL_law 846 = .ok (.iload_n 3, 1) := by decide +kernel
theorem dL_law_847 : decode cL_law 847 = .ok (.iconst 4, 1) := by decide +kernel
theorem dL_law_848 : decode cL_law 848 = .ok (.iadd, 1) := by decide +kernel
theorem dL_law_849 : decode cL_law 849 = .ok (.iaload, 1) := by decide +kernel
theorem dL_law_850 : decode cL_law 850 = .ok (.aload_n 0, 1) := by decide +kernel
theorem dL_law_851 : decode cL_law 851 = .ok (.iload_n 3, 1) := by decide +kernel
theorem dL_law_852 : decode cL_law 852 = .ok (.iconst 5, 1) := by decide +kernel
theorem dL_law_853 : decode cL_law 853 = .ok (.iadd, 1) := by decide +kernel
theorem dL_law_854 : decode cL_law 854 = .ok (.iaload, 1) := by decide +kernel
theorem dL_law_855 : decode cL_law 855 = .ok (.invokevirtual 91, 3) := by decide +kernel
theorem dL_law_858 : decode cL_law 858 = .ok (.lcmp, 1) := by decide +kernel
theorem dL_law_859 : decode cL_law 859 = .ok (.ifCond .eq 259, 3) := by decide +kernel
theorem dL_law_862 : decode cL_law 862 = .ok (.iconst 0, 1) := by decide +kernel
theorem dL_law_863 : decode cL_law 863 = .ok (.ireturn, 1) := by decide +kernel
theorem dL_law_864 : decode cL_law 864 = .ok (.aload_n 1, 1) := by decide +kernel
theorem dL_law_865 : decode cL_law 865 = .ok (.aload_n 0, 1) := by decide +kernel
theorem dL_law_866 : decode cL_law 866 = .ok (.iload_n 3, 1) := by decide +kernel
theorem dL_law_867 : decode cL_law 867 = .ok (.iconst 1, 1) := by decide +kernel
theorem dL_law_868 : decode cL_law 868 = .ok (.iadd, 1) := by decide +kernel
theorem dL_law_869 : decode cL_law 869 = .ok (.iaload, 1) := by decide +kernel
theorem dL_law_870 : decode cL_law 870 = .ok (.aload_n 0, 1) := by decide +kernel
theorem dL_law_871 : decode cL_law 871 = .ok (.iload_n 3, 1) := by decide +kernel
theorem dL_law_872 : decode cL_law 872 = .ok (.iconst 2, 1) := by decide +kernel
theorem dL_law_873 : decode cL_law 873 = .ok (.iadd, 1) := by decide +kernel
theorem dL_law_874 : decode cL_law 874 = .ok (.iaload, 1) := by decide +kernel
theorem dL_law_875 : decode cL_law 875 = .ok (.aload_n 0, 1) := by decide +kernel
theorem dL_law_876 : decode cL_law 876 = .ok (.iload_n 3, 1) := by decide +kernel
theorem dL_law_877 : decode cL_law 877 = .ok (.iconst 3, 1) := by decide +kernel
theorem dL_law_878 : decode cL_law 878 = .ok (.iadd, 1) := by decide +kernel
theorem dL_law_879 : decode cL_law 879 = .ok (.iaload, 1) := by decide +kernel
theorem dL_law_880 : decode cL_law 880 = .ok (.invokevirtual 92, 3) := by decide +kernel
theorem dL_law_883 : decode cL_law 883 = .ok (.aload_n 2, 1) := by decide +kernel
theorem dL_law_884 : decode cL_law 884 = .ok (.aload_n 0, 1) := by decide +kernel
theorem dL_law_885 : decode cL_law 885 = .ok (.iload_n 3, 1) := by decide +kernel
theorem dL_law_886 : decode cL_law 886 = .ok (.iconst 1, 1) := by decide +kernel
theorem dL_law_887 : decode cL_law 887 = .ok (.iadd, 1) := by decide +kernel
theorem dL_law_888 : decode cL_law 888 = .ok (.iaload, 1) := by decide +kernel
theorem dL_law_889 : decode cL_law 889 = .ok (.aload_n 0, 1) := by decide +kernel
theorem dL_law_890 : decode cL_law 890 = .ok (.iload_n 3, 1) := by decide +kernel
theorem dL_law_891 : decode cL_law 891 = .ok (.iconst 2, 1) := by decide +kernel
theorem dL_law_892 : decode cL_law 892 = .ok (.iadd, 1) := by decide +kernel
theorem dL_law_893 : decode cL_law 893 = .ok (.iaload, 1) := by decide +kernel
theorem dL_law_894 : decode cL_law 894 = .ok (.aload_n 0, 1) := by decide +kernel
theorem dL_law_895 : decode cL_law 895 = .ok (.iload_n 3, 1) := by decide +kernel
theorem dL_law_896 : decode cL_law 896 = .ok (.iconst 3, 1) := by decide +kernel
theorem dL_law_897 : decode cL_law 897 = .ok (.iadd, 1) := by decide +kernel
theorem dL_law_898 : decode cL_law 898 = .ok (.iaload, 1) := by decide +kernel
theorem dL_law_899 : decode cL_law 899 = .ok (.invokevirtual 95, 3) := by decide +kernel
theorem dL_law_902 : decode cL_law 902 = .ok (.if_icmp .eq 216, 3) := by decide +kernel
theorem dL_law_905 : decode cL_law 905 = .ok (.iconst 0, 1) := by decide +kernel
theorem dL_law_906 : decode cL_law 906 = .ok (.ireturn, 1) := by decide +kernel
theorem dL_law_907 : decode cL_law 907 = .ok (.aload_n 1, 1) := by decide +kernel
theorem dL_law_908 : decode cL_law 908 = .ok (.aload_n 0, 1) := by decide +kernel
theorem dL_law_909 : decode cL_law 909 = .ok (.iload_n 3, 1) := by decide +kernel
theorem dL_law_910 : decode cL_law 910 = .ok (.iconst 1, 1) := by decide +kernel
theorem dL_law_911 : decode cL_law 911 = .ok (.iadd, 1) := by decide +kernel
theorem dL_law_912 : decode cL_law 912 = .ok (.iaload, 1) := by decide +kernel
theorem dL_law_913 : decode cL_law 913 = .ok (.aload_n 0, 1) := by decide +kernel
theorem dL_law_914 : decode cL_law 914 = .ok (.iload_n 3, 1) := by decide +kernel
theorem dL_law_915 : decode cL_law 915 = .ok (.iconst 2, 1) := by decide +kernel
theorem dL_law_916 : decode cL_law 916 = .ok (.iadd, 1) := by decide +kernel
theorem dL_law_917 : decode cL_law 917 = .ok (.iaload, 1) := by decide +kernel
theorem dL_law_918 : decode cL_law 918 = .ok (.invokevirtual 96, 3) := by decide +kernel
theorem dL_law_921 : decode cL_law 921 = .ok (.aload_n 2, 1) := by decide +kernel
theorem dL_law_922 : decode cL_law 922 = .ok (.aload_n 0, 1) := by decide +kernel
theorem dL_law_923 : decode cL_law 923 = .ok (.iload_n 3, 1) := by decide +kernel
theorem dL_law_924 : decode cL_law 924 = .ok (.iconst 1, 1) := by decide +kernel
theorem dL_law_925 : decode cL_law 925 = .ok (.iadd, 1) := by decide +kernel
theorem dL_law_926 : decode cL_law 926 = .ok (.iaload, 1) := by decide +kernel
theorem dL_law_927 : decode cL_law 927 = .ok (.aload_n 0, 1) := by decide +kernel
theorem dL_law_928 : decode cL_law 928 = .ok (.iload_n 3, 1) := by decide +kernel
theorem dL_law_929 : decode cL_law 929 = .ok (.iconst 2, 1) := by decide +kernel
theorem dL_law_930 : decode cL_law 930 = .ok (.iadd, 1) := by decide +kernel
theorem dL_law_931 : decode cL_law 931 = .ok (.iaload, 1) := by decide +kernel
theorem dL_law_932 : decode cL_law 932 = .ok (.invokevirtual 99, 3) := by decide +kernel
theorem dL_law_935 : decode cL_law 935 = .ok (.if_icmp .eq 183, 3) := by decide +kernel
theorem dL_law_938 : decode cL_law 938 = .ok (.iconst 0, 1) := by decide +kernel
theorem dL_law_939 : decode cL_law 939 = .ok (.ireturn, 1) := by decide +kernel
theorem dL_law_940 : decode cL_law 940 = .ok (.aload_n 1, 1) := by decide +kernel
theorem dL_law_941 : decode cL_law 941 = .ok (.aload_n 0, 1) := by decide +kernel
theorem dL_law_942 : decode cL_law 942 = .ok (.iload_n 3, 1) := by decide +kernel
theorem dL_law_943 : decode cL_law 943 = .ok (.iconst 1, 1) := by decide +kernel
theorem dL_law_944 : decode cL_law 944 = .ok (.iadd, 1) := by decide +kernel
theorem dL_law_945 : decode cL_law 945 = .ok (.iaload, 1) := by decide +kernel
theorem dL_law_946 : decode cL_law 946 = .ok (.aload_n 0, 1) := by decide +kernel
theorem dL_law_947 : decode cL_law 947 = .ok (.iload_n 3, 1) := by decide +kernel
theorem dL_law_948 : decode cL_law 948 = .ok (.iconst 2, 1) := by decide +kernel
theorem dL_law_949 : decode cL_law 949 = .ok (.iadd, 1) := by decide +kernel
theorem dL_law_950 : decode cL_law 950 = .ok (.iaload, 1) := by decide +kernel
theorem dL_law_951 : decode cL_law 951 = .ok (.aload_n 0, 1) := by decide +kernel
theorem dL_law_952 : decode cL_law 952 = .ok (.iload_n 3, 1) := by decide +kernel
theorem dL_law_953 : decode cL_law 953 = .ok (.iconst 3, 1) := by decide +kernel
theorem dL_law_954 : decode cL_law 954 = .ok (.iadd, 1) := by decide +kernel
theorem dL_law_955 : decode cL_law 955 = .ok (.iaload, 1) := by decide +kernel
theorem dL_law_956 : decode cL_law 956 = .ok (.invokevirtual 100, 3) := by decide +kernel
theorem dL_law_959 : decode cL_law 959 = .ok (.aload_n 2, 1) := by decide +kernel
theorem dL_law_960 : decode cL_law 960 = .ok (.aload_n 0, 1) := by decide +kernel
theorem dL_law_961 : decode cL_law 961 = .ok (.iload_n 3, 1) := by decide +kernel
theorem dL_law_962 : decode cL_law 962 = .ok (.iconst 1, 1) := by decide +kernel
theorem dL_law_963 : decode cL_law 963 = .ok (.iadd, 1) := by decide +kernel
theorem dL_law_964 : decode cL_law 964 = .ok (.iaload, 1) := by decide +kernel
theorem dL_law_965 : decode cL_law 965 = .ok (.aload_n 0, 1) := by decide +kernel
theorem dL_law_966 : decode cL_law 966 = .ok (.iload_n 3, 1) := by decide +kernel
theorem dL_law_967 : decode cL_law 967 = .ok (.iconst 2, 1) := by decide +kernel
theorem dL_law_968 : decode cL_law 968 = .ok (.iadd, 1) := by decide +kernel
theorem dL_law_969 : decode cL_law 969 = .ok (.iaload, 1) := by decide +kernel
theorem dL_law_970 : decode cL_law 970 = .ok (.aload_n 0, 1) := by decide +kernel
theorem dL_law_971 : decode cL_law 971 = .ok (.iload_n 3, 1) := by decide +kernel
theorem dL_law_972 : decode cL_law 972 = .ok (.iconst 3, 1) := by decide +kernel
theorem dL_law_973 : decode cL_law 973 = .ok (.iadd, 1) := by decide +kernel
theorem dL_law_974 : decode cL_law 974 = .ok (.iaload, 1) := by decide +kernel
theorem dL_law_975 : decode cL_law 975 = .ok (.invokevirtual 103, 3) := by decide +kernel
theorem dL_law_978 : decode cL_law 978 = .ok (.if_icmp .eq 140, 3) := by decide +kernel
theorem dL_law_981 : decode cL_law 981 = .ok (.iconst 0, 1) := by decide +kernel
theorem dL_law_982 : decode cL_law 982 = .ok (.ireturn, 1) := by decide +kernel
theorem dL_law_983 : decode cL_law 983 = .ok (.aload_n 1, 1) := by decide +kernel
theorem dL_law_984 : decode cL_law 984 = .ok (.aload_n 0, 1) := by decide +kernel
theorem dL_law_985 : decode cL_law 985 = .ok (.iload_n 3, 1) := by decide +kernel
theorem dL_law_986 : decode cL_law 986 = .ok (.iconst 1, 1) := by decide +kernel
theorem dL_law_987 : decode cL_law 987 = .ok (.iadd, 1) := by decide +kernel
theorem dL_law_988 : decode cL_law 988 = .ok (.iaload, 1) := by decide +kernel
theorem dL_law_989 : decode cL_law 989 = .ok (.invokevirtual 104, 3) := by decide +kernel
theorem dL_law_992 : decode cL_law 992 = .ok (.aload_n 2, 1) := by decide +kernel
theorem dL_law_993 : decode cL_law 993 = .ok (.aload_n 0, 1) := by decide +kernel
theorem dL_law_994 : decode cL_law 994 = .ok (.iload_n 3, 1) := by decide +kernel
theorem dL_law_995 : decode cL_law 995 = .ok (.iconst 1, 1) := by decide +kernel
theorem dL_law_996 : decode cL_law 996 = .ok (.iadd, 1) := by decide +kernel
theorem dL_law_997 : decode cL_law 997 = .ok (.iaload, 1) := by decide +kernel
theorem dL_law_998 : decode cL_law 998 = .ok (.invokevirtual 107, 3) := by decide +kernel
theorem dL_law_1001 : decode cL_law 1001 = .ok (.if_icmp .eq 117, 3) := by decide +kernel
theorem dL_law_1004 : decode cL_law 1004 = .ok (.iconst 0, 1) := by decide +kernel
theorem dL_law_1005 : decode cL_law 1005 = .ok (.ireturn, 1) := by decide +kernel
theorem dL_law_1006 : decode cL_law 1006 = .ok (.aload_n 1, 1) := by decide +kernel
theorem dL_law_1007 : decode cL_law 1007 = .ok (.aload_n 0, 1) := by decide +kernel
theorem dL_law_1008 : decode cL_law 1008 = .ok (.iload_n 3, 1) := by decide +kernel
theorem dL_law_1009 : decode cL_law 1009 = .ok (.iconst 1, 1) := by decide +kernel
theorem dL_law_1010 : decode cL_law 1010 = .ok (.iadd, 1) := by decide +kernel
theorem dL_law_1011 : decode cL_law 1011 = .ok (.iaload, 1) := by decide +kernel
theorem dL_law_1012 : decode cL_law 1012 = .ok (.aload_n 0, 1) := by decide +kernel
theorem dL_law_1013 : decode cL_law 1013 = .ok (.iload_n 3, 1) := by decide +kernel
theorem dL_law_1014 : decode cL_law 1014 = .ok (.iconst 2, 1) := by decide +kernel
theorem dL_law_1015 : decode cL_law 1015 = .ok (.iadd, 1) := by decide +kernel
theorem dL_law_1016 : decode cL_law 1016 = .ok (.iaload, 1) := by decide +kernel
theorem dL_law_1017 : decode cL_law 1017 = .ok (.invokevirtual 108, 3) := by decide +kernel
theorem dL_law_1020 : decode cL_law 1020 = .ok (.aload_n 2, 1) := by decide +kernel
theorem dL_law_1021 : decode cL_law 1021 = .ok (.aload_n 0, 1) := by decide +kernel
theorem dL_law_1022 : decode cL_law 1022 = .ok (.iload_n 3, 1) := by decide +kernel
theorem dL_law_1023 : decode cL_law 1023 = .ok (.iconst 1, 1) := by decide +kernel
theorem dL_law_1024 : decode cL_law 1024 = .ok (.iadd, 1) := by decide +kernel
theorem dL_law_1025 : decode cL_law 1025 = .ok (.iaload, 1) := by decide +kernel
theorem dL_law_1026 : decode cL_law 1026 = .ok (.aload_n 0, 1) := by decide +kernel
theorem dL_law_1027 : decode cL_law 1027 = .ok (.iload_n 3, 1) := by decide +kernel
theorem dL_law_1028 : decode cL_law 1028 = .ok (.iconst 2, 1) := by decide +kernel
theorem dL_law_1029 : decode cL_law 1029 = .ok (.iadd, 1) := by decide +kernel
theorem dL_law_1030 : decode cL_law 1030 = .ok (.iaload, 1) := by decide +kernel
theorem dL_law_1031 : decode cL_law 1031 = .ok (.invokevirtual 111, 3) := by decide +kernel
theorem dL_law_1034 : decode cL_law 1034 = .ok (.if_icmp .eq 84, 3) := by decide +kernel
theorem dL_law_1037 : decode cL_law 1037 = .ok (.iconst 0, 1) := by decide +kernel
theorem dL_law_1038 : decode cL_law 1038 = .ok (.ireturn, 1) := by decide +kernel
theorem dL_law_1039 : decode cL_law 1039 = .ok (.aload_n 1, 1) := by decide +kernel
theorem dL_law_1040 : decode cL_law 1040 = .ok (.aload_n 0, 1) := by decide +kernel
theorem dL_law_1041 : decode cL_law 1041 = .ok (.iload_n 3, 1) := by decide +kernel
theorem dL_law_1042 : decode cL_law 1042 = .ok (.iconst 1, 1) := by decide +kernel
theorem dL_law_1043 : decode cL_law 1043 = .ok (.iadd, 1) := by decide +kernel
theorem dL_law_1044 : decode cL_law 1044 = .ok (.iaload, 1) := by decide +kernel
theorem dL_law_1045 : decode cL_law 1045 = .ok (.aload_n 0, 1) := by decide +kernel
theorem dL_law_1046 : decode cL_law 1046 = .ok (.iload_n 3, 1) := by decide +kernel
theorem dL_law_1047 : decode cL_law 1047 = .ok (.iconst 2, 1) := by decide +kernel
theorem dL_law_1048 : decode cL_law 1048 = .ok (.iadd, 1) := by decide +kernel
theorem dL_law_1049 : decode cL_law 1049 = .ok (.iaload, 1) := by decide +kernel
theorem dL_law_1050 : decode cL_law 1050 = .ok (.invokevirtual 112, 3) := by decide +kernel
theorem dL_law_1053 : decode cL_law 1053 = .ok (.aload_n 2, 1) := by decide +kernel
theorem dL_law_1054 : decode cL_law 1054 = .ok (.aload_n 0, 1) := by decide +kernel
theorem dL_law_1055 : decode cL_law 1055 = .ok (.iload_n 3, 1) := by decide +kernel
theorem dL_law_1056 : decode cL_law 1056 = .ok (.iconst 1, 1) := by decide +kernel
theorem dL_law_1057 : decode cL_law 1057 = .ok (.iadd, 1) := by decide +kernel
theorem dL_law_1058 : decode cL_law 1058 = .ok (.iaload, 1) := by decide +kernel
theorem dL_law_1059 : decode cL_law 1059 = .ok (.aload_n 0, 1) := by decide +kernel
theorem dL_law_1060 : decode cL_law 1060 = .ok (.iload_n 3, 1) := by decide +kernel
theorem dL_law_1061 : decode cL_law 1061 = .ok (.iconst 2, 1) := by decide +kernel
theorem dL_law_1062 : decode cL_law 1062 = .ok (.iadd, 1) := by decide +kernel
theorem dL_law_1063 : decode cL_law 1063 = .ok (.iaload, 1) := by decide +kernel
theorem dL_law_1064 : decode cL_law 1064 = .ok (.invokevirtual 115, 3) := by decide +kernel
theorem dL_law_1067 : decode cL_law 1067 = .ok (.if_icmp .eq 51, 3) := by decide +kernel
theorem dL_law_1070 : decode cL_law 1070 = .ok (.iconst 0, 1) := by decide +kernel
theorem dL_law_1071 : decode cL_law 1071 = .ok (.ireturn, 1) := by decide +kernel
theorem dL_law_1072 : decode cL_law 1072 = .ok (.aload_n 1, 1) := by decide +kernel
theorem dL_law_1073 : decode cL_law 1073 = .ok (.invokevirtual 116, 3) := by decide +kernel
theorem dL_law_1076 : decode cL_law 1076 = .ok (.aload_n 2, 1) := by decide +kernel
theorem dL_law_1077 : decode cL_law 1077 = .ok (.invokevirtual 119, 3) := by decide +kernel
theorem dL_law_1080 : decode cL_law 1080 = .ok (.if_icmp .eq 38, 3) := by decide +kernel
theorem dL_law_1083 : decode cL_law 1083 = .ok (.iconst 0, 1) := by decide +kernel
theorem dL_law_1084 : decode cL_law 1084 = .ok (.ireturn, 1) := by decide +kernel
theorem dL_law_1085 : decode cL_law 1085 = .ok (.aload_n 1, 1) := by decide +kernel
theorem dL_law_1086 : decode cL_law 1086 = .ok (.aload_n 0, 1) := by decide +kernel
theorem dL_law_1087 : decode cL_law 1087 = .ok (.iload_n 3, 1) := by decide +kernel
theorem dL_law_1088 : decode cL_law 1088 = .ok (.iconst 1, 1) := by decide +kernel
theorem dL_law_1089 : decode cL_law 1089 = .ok (.iadd, 1) := by decide +kernel
theorem dL_law_1090 : decode cL_law 1090 = .ok (.iaload, 1) := by decide +kernel
theorem dL_law_1091 : decode cL_law 1091 = .ok (.aload_n 0, 1) := by decide +kernel
theorem dL_law_1092 : decode cL_law 1092 = .ok (.iload_n 3, 1) := by decide +kernel
theorem dL_law_1093 : decode cL_law 1093 = .ok (.iconst 2, 1) := by decide +kernel
theorem dL_law_1094 : decode cL_law 1094 = .ok (.iadd, 1) := by decide +kernel
theorem dL_law_1095 : decode cL_law 1095 = .ok (.iaload, 1) := by decide +kernel
theorem dL_law_1096 : decode cL_law 1096 = .ok (.invokevirtual 120, 3) := by decide +kernel
theorem dL_law_1099 : decode cL_law 1099 = .ok (.aload_n 2, 1) := by decide +kernel
theorem dL_law_1100 : decode cL_law 1100 = .ok (.aload_n 0, 1) := by decide +kernel
theorem dL_law_1101 : decode cL_law 1101 = .ok (.iload_n 3, 1) := by decide +kernel
theorem dL_law_1102 : decode cL_law 1102 = .ok (.iconst 1, 1) := by decide +kernel
theorem dL_law_1103 : decode cL_law 1103 = .ok (.iadd, 1) := by decide +kernel
theorem dL_law_1104 : decode cL_law 1104 = .ok (.iaload, 1) := by decide +kernel
theorem dL_law_1105 : decode cL_law 1105 = .ok (.aload_n 0, 1) := by decide +kernel
theorem dL_law_1106 : decode cL_law 1106 = .ok (.iload_n 3, 1) := by decide +kernel
theorem dL_law_1107 : decode cL_law 1107 = .ok (.iconst 2, 1) := by decide +kernel
theorem dL_law_1108 : decode cL_law 1108 = .ok (.iadd, 1) := by decide +kernel
theorem dL_law_1109 : decode cL_law 1109 = .ok (.iaload, 1) := by decide +kernel
theorem dL_law_1110 : decode cL_law 1110 = .ok (.invokevirtual 123, 3) := by decide +kernel
theorem dL_law_1113 : decode cL_law 1113 = .ok (.if_icmp .eq 5, 3) := by decide +kernel
theorem dL_law_1116 : decode cL_law 1116 = .ok (.iconst 0, 1) := by decide +kernel
theorem dL_law_1117 : decode cL_law 1117 = .ok (.ireturn, 1) := by decide +kernel
theorem dL_law_1118 : decode cL_law 1118 = .ok (.iinc 3 8, 3) := by decide +kernel
theorem dL_law_1121 : decode cL_law 1121 = .ok (.goto (-1103), 3) := by decide +kernel
theorem dL_law_1124 : decode cL_law 1124 = .ok (.iconst 1, 1) := by decide +kernel
theorem dL_law_1125 : decode cL_law 1125 = .ok (.ireturn, 1) := by decide +kernel
end
section
/-! THE FRAME: a state of the system as tables (kinds, ints, longs, references by handle and place); G, a point of a method's walk over such tables; gMet, a method's contract over them -/
abbrev gK : Type := Nat ⊕ (Nat × Nat)
abbrev gMem : Type := (Nat → gK) × (Nat → Nat → Int32) × (Nat → Nat → Int64) × (Nat → Nat → Option Nat) × Nat
abbrev gE : Type := va_G × (Nat → ClassId) × Nat × (Nat → Nat)
abbrev gMeth : Type := MethodName × ByteArray × Nat × Option FieldType
def g_ad (E : gE) (k : Nat) : Nat := if k < 1000000 then E.2.2.1 + k else E.2.2.2 (k - 1000000)
def g_v (E : gE) : Value → Value
  | .ref k => .ref (g_ad E k)
  | v => v
def g_ty (ci : Nat) : Nat → FieldType := match ci with
  | 0 => tyX0
  | 1 => tyX1
  | 2 => tyX2
  | 3 => tyX3
  | 4 => tyX4
  | 5 => tyX5
  | 6 => tyX6
  | 7 => tyX7
  | 8 => tyX8
  | 9 => tyX9
  | _ => tyX10
def g_T (ci : Nat) : u_T := match ci with
  | 0 => TX0
  | 1 => TX1
  | 2 => TX2
  | 3 => TX3
  | 4 => TX4
  | 5 => TX5
  | 6 => TX6
  | 7 => TX7
  | 8 => TX8
  | 9 => TX9
  | _ => TX10
def g_R (ci : Nat) : String := match ci with
  | 0 => RX0
  | 1 => RX1
  | 2 => RX2
  | 3 => RX3
  | 4 => RX4
  | 5 => RX5
  | 6 => RX6
  | 7 => RX7
  | 8 => RX8
  | 9 => RX9
  | _ => RX10
def g_N (ci : Nat) : Nat := match ci with
  | 0 => 10
  | 1 => 2
  | 2 => 10
  | 3 => 5
  | 4 => 10
  | 5 => 3
  | 6 => 2
  | 7 => 6
  | 8 => 5
  | 9 => 8
  | _ => 46
theorem g_11 {P : Nat → Prop} (h0 : P 0) (h1 : P 1) (h2 : P 2) (h3 : P 3) (h4 : P 4) (h5 : P 5) (h6 : P 6) (h7 : P 7) (h8 : P 8) (h9 : P 9) (h10 : P 10) : ∀ ci, ci < 11 → P ci := by
  intro ci h
  match ci, h with
  | 0, _ => exact h0
  | 1, _ => exact h1
  | 2, _ => exact h2
  | 3, _ => exact h3
  | 4, _ => exact h4
  | 5, _ => exact h5
  | 6, _ => exact h6
  | 7, _ => exact h7
  | 8, _ => exact h8
  | 9, _ => exact h9
  | 10, _ => exact h10
  | k + 11, h => omega
theorem g_cl : ∀ ci, ci < 11 → vwCl[ci]? = some (g_R ci, g_T ci, g_N ci) := g_11 rfl rfl rfl rfl rfl rfl rfl rfl rfl rfl rfl
theorem g_tyok : ∀ ci, ci < 11 → ∀ k, k < g_N ci → parseFieldDescriptor (g_T ci k).2.2.1 = some (g_ty ci k) := g_11 tyX0_ok tyX1_ok tyX2_ok tyX3_ok tyX4_ok tyX5_ok tyX6_ok tyX7_ok tyX8_ok tyX9_ok tyX10_ok
theorem g_nm : ∀ ci, ci < 11 → ∀ a, a < g_N ci → ∀ b, b < g_N ci → a ≠ b → (g_T ci a).2.1 ≠ (g_T ci b).2.1 := g_11 nmX0 nmX1 nmX2 nmX3 nmX4 nmX5 nmX6 nmX7 nmX8 nmX9 nmX10
def g_tb : List Cond := lw_tbl.filter goodWord
theorem g_tb_of {w : Cond} (h : w ∈ lw_tbl) (hg : goodWord w = true) : w ∈ g_tb := List.mem_filter.mpr ⟨h, hg⟩
theorem g_tb_in {w : Cond} (h : w ∈ g_tb) : w ∈ lw_tbl := (List.mem_filter.mp h).1
theorem g_lay_good (C : String) (T : u_T) (k : Nat) : goodWord (u_lay C T k) = true := by
  unfold u_lay
  split <;> rfl
theorem g_inT : ∀ ci, ci < 11 → ∀ w ∈ u_ws (g_R ci) (g_T ci) (g_N ci), w ∈ g_tb := by
  have h : ∀ ci, ci < 11 → ∀ w ∈ u_ws (g_R ci) (g_T ci) (g_N ci), w ∈ lw_tbl := g_11 inX0 inX1 inX2 inX3 inX4 inX5 inX6 inX7 inX8 inX9 inX10
  intro ci hci w hw
  refine g_tb_of (h ci hci w hw) ?_
  obtain ⟨k, -, rfl⟩ := List.mem_map.mp hw
  exact g_lay_good _ _ _
theorem g_good {ws : List Cond} (h : ∀ w ∈ ws, w ∈ g_tb) : GoodIn g_tb ws := fun w hw => ⟨h w hw, good_of_word (List.mem_filter.mp (h w hw)).2⟩
/-- the array kinds -/
def g_el (t : Nat) : FieldType := match t with
  | 0 => .int
  | 1 => .boolean
  | 2 => .long
  | 3 => .object RX2
  | 4 => .object RX6
  | 5 => .object RX4
  | _ => .array .int
def g_tys (E : gE) : List (ClassId × FieldType) := (List.range 7).map (fun t => (E.2.1 t, g_el t))
theorem g_tys_at (E : gE) {t : Nat} (h : t < 7) : (g_tys E)[t]? = some (E.2.1 t, g_el t) := by
  unfold g_tys
  rw [List.getElem?_map, List.getElem?_range h]
  rfl
def g_fv (E : gE) (M : gMem) (a : Nat) (ty : FieldType) (k : Nat) : Value := match ty with
  | .long => .long (M.2.2.1 a k)
  | .object _ => va_rf ((M.2.2.2.1 a k).map (g_ad E))
  | .array _ => va_rf ((M.2.2.2.1 a k).map (g_ad E))
  | _ => .int (M.2.1 a k)
def g_arr (E : gE) (M : gMem) (a : Nat) (t : Nat) : (Nat → Int32) ⊕ (Nat → Int64) ⊕ (Nat → UInt32) ⊕ (Nat → UInt64) ⊕ (Nat → Option Nat) := match t with
  | 0 => .inl (M.2.1 a)
  | 1 => .inl (M.2.1 a)
  | 2 => .inr (.inl (M.2.2.1 a))
  | _ => .inr (.inr (.inr (.inr (fun j => (M.2.2.2.1 a j).map (g_ad E)))))
def g_fs (E : gE) (M : gMem) (a ci : Nat) : List Value := (List.range (g_N ci)).map (fun k => g_fv E M a (g_ty ci k) k)
def g_cell (E : gE) (M : gMem) (a : Nat) : va_E := match M.1 a with
  | .inl ci => .inr (ci, g_fs E M a ci)
  | .inr (t, n) => .inl (E.2.1 t, n, g_arr E M a t)
def g_w (E : gE) (M : gMem) : va_W := (List.range M.2.2.2.2).map (fun a => (g_ad E a, g_cell E M a))
theorem g_w_at {E : gE} {M : gMem} {a : Nat} (h : a < M.2.2.2.2) : (g_w E M)[a]? = some (g_ad E a, g_cell E M a) := by
  unfold g_w
  rw [List.getElem?_map, List.getElem?_range h]
  rfl
theorem g_w_of {E : gE} {M : gMem} {k : Nat} {q : Nat × va_E} (h : (g_w E M)[k]? = some q) : k < M.2.2.2.2 ∧ q = (g_ad E k, g_cell E M k) := by
  have hk : k < M.2.2.2.2 := by
    have := (List.getElem?_eq_some_iff.mp h).1
    simpa [g_w] using this
  refine ⟨hk, ?_⟩
  rw [g_w_at hk] at h
  exact (Option.some.inj h).symm
def g_A (E : gE) : Nat → Prop := fun q => E.2.2.1 ≤ q
theorem g_w_D {E : gE} {M : gMem} (hn : M.2.2.2.2 ≤ 1000000) : va_D (g_A E) (g_w E M) := by
  refine ⟨fun i j p q hi hj hpq => ?_, fun k q hq => ?_⟩
  · obtain ⟨h1, rfl⟩ := g_w_of hi
    obtain ⟨h2, rfl⟩ := g_w_of hj
    have e : g_ad E i = g_ad E j := hpq
    unfold g_ad at e
    rw [if_pos (by omega), if_pos (by omega)] at e
    omega
  · obtain ⟨h1, rfl⟩ := g_w_of hq
    show E.2.2.1 ≤ g_ad E k
    unfold g_ad
    rw [if_pos (by omega)]
    omega
theorem g_w_set {E : gE} {M M' : gMem} {a : Nat} {e : va_E} (hn : M'.2.2.2.2 = M.2.2.2.2) (he : g_cell E M' a = e) (ho : ∀ b, b ≠ a → g_cell E M' b = g_cell E M b) : (g_w E M).set a (g_ad E a, e) = g_w E M' := by
  apply List.ext_getElem?
  intro i
  rw [List.getElem?_set]
  by_cases hi : i < M.2.2.2.2
  · rw [g_w_at (M := M') (by omega), g_w_at hi]
    by_cases ha : a = i
    · subst ha
      have hl : a < (g_w E M).length := by simpa [g_w] using hi
      rw [if_pos rfl, if_pos hl, he]
    · rw [if_neg ha, ho i (fun q => ha q.symm)]
  · have h1 : (g_w E M)[i]? = none := List.getElem?_eq_none (by simp [g_w]; omega)
    have h2 : (g_w E M')[i]? = none := List.getElem?_eq_none (by simp [g_w]; omega)
    rw [h1, h2]
    by_cases ha : a = i
    · subst ha
      have hl : ¬ a < (g_w E M).length := by simpa [g_w] using hi
      rw [if_pos rfl, if_neg hl]
    · rw [if_neg ha]
theorem g_w_push {E : gE} {M M' : gMem} {e : va_E} (hn : M'.2.2.2.2 = M.2.2.2.2 + 1) (he : g_cell E M' M.2.2.2.2 = e) (ho : ∀ b, b < M.2.2.2.2 → g_cell E M' b = g_cell E M b) : g_w E M ++ [(g_ad E M.2.2.2.2, e)] = g_w E M' := by
  unfold g_w
  rw [hn, List.range_succ, List.map_append]
  congr 1
  · apply List.map_congr_left
    intro b hb
    rw [ho b (List.mem_range.mp hb)]
  · simp [he]
/-- one place of one table -/
def g_u {α : Type} (f : Nat → Nat → α) (a k : Nat) (x : α) : Nat → Nat → α := fun b => if b = a then (fun j => if j = k then x else f a j) else f b
theorem g_u_self {α : Type} (f : Nat → Nat → α) (a k : Nat) (x : α) : g_u f a k x a = fun j => if j = k then x else f a j := by simp [g_u]
theorem g_u_ne {α : Type} (f : Nat → Nat → α) {a b : Nat} (k : Nat) (x : α) (h : b ≠ a) : g_u f a k x b = f b := by simp [g_u, h]
def g_room (d mc ms : Nat) : Room := { frames := d + 1, cells := mc, slots := ms, locals := 80 * (d + 1) }
def g_ws (μ : gMeth) : List Cond := .code μ.1 μ.2.1 μ.2.2.1 μ.2.2.2 :: g_tb
/-! what was there before the law began: static rows, String constants, links of nest mates -/
def g_nest : List Cond := [.methodLinkNest RX1 20 yX9_within RX9, .methodLinkNest RX2 52 yX9_wholeRoot RX9, .methodLinkNest RX1 45 yX9_asNumber RX9, .methodLinkNest RX0 50 yX9_asNumber RX9, .methodLinkNest RX8 28 yX9_within RX9, .methodLinkNest RX6 90 yX9_within RX9, .methodLinkNest RX7 98 yX9_asNumber RX9, .methodLinkNest RX7 119 yX9_compareSums RX9, .methodLinkNest RX3 34 yX9_within RX9, .methodLinkNest RX0 43 yX9_within RX9]
def g_isN (w : Cond) : Bool := match w with
  | .methodLinkNest .. => true
  | _ => false
theorem g_nest_N : ∀ w ∈ g_nest, g_isN w = true := by decide +kernel
theorem g_Nw_warm {w : Cond} (hw : g_isN w = true) {s U : State} (hW : s.WarmedH U.vm) (h : va_Nw w s) : va_Nw w U := by
  cases w <;> first | exact va_Nw.warmM hW h | (exact absurd hw (by simp [g_isN]))
theorem g_Nw_same {w : Cond} (hw : g_isN w = true) {s U : State} (hv : s.vm = U.vm) (h : va_Nw w s) : va_Nw w U := by
  cases w <;> first | exact va_Nw.same rfl hv h | (exact absurd hw (by simp [g_isN]))
/-- the static rows: class, name, length, contents -/
def g_sC (i : Nat) : String := match i with
  | 3 => RX3
  | _ => RX6
def g_sn (i : Nat) : String := match i with
  | 1 => "LEAST"
  | 2 => "GREATEST"
  | _ => "AT_FIRST"
def g_sl (i : Nat) : List Int32 := match i with
  | 0 => [2, 1, 12, 0, 21, 1, 1, 1]
  | 1 => [0, 0, 1, 0, 1]
  | 2 => [9, 9, 12, 20, 99]
  | _ => [0, 10, 20, 20, 10, 0, 0, 40, 20, 0, 20, 0, 10, 0, 30]
def g_sf (i : Nat) : Nat → Int32 := fun j => (g_sl i).getD j 0
/-- the String constants: class, entry, text -/
def g_kC (i : Nat) : String := if i < 13 then RX6 else RX5
def g_kE (i : Nat) : Nat := if i < 13 then 111 + 2 * i else 71 + 2 * (i - 13)
def g_kT (i : Nat) : String := match i with
  | 0 => "ringer"
  | 1 => "near"
  | 2 => "most"
  | 3 => "measure"
  | 4 => "game"
  | 5 => "cancel"
  | 6 => "down"
  | 7 => "under"
  | 8 => "none"
  | 9 => "pairs"
  | 10 => "top"
  | 11 => "yes"
  | 12 => "no"
  | 13 => "table"
  | 14 => "won"
  | 15 => "diff"
  | 16 => "for"
  | _ => "met"
def g_kb (i : Nat) : List Int32 := match i with
  | 0 => [114, 105, 110, 103, 101, 114]
  | 1 => [110, 101, 97, 114]
  | 2 => [109, 111, 115, 116]
  | 3 => [109, 101, 97, 115, 117, 114, 101]
  | 4 => [103, 97, 109, 101]
  | 5 => [99, 97, 110, 99, 101, 108]
  | 6 => [100, 111, 119, 110]
  | 7 => [117, 110, 100, 101, 114]
  | 8 => [110, 111, 110, 101]
  | 9 => [112, 97, 105, 114, 115]
  | 10 => [116, 111, 112]
  | 11 => [121, 101, 115]
  | 12 => [110, 111]
  | 13 => [116, 97, 98, 108, 101]
  | 14 => [119, 111, 110]
  | 15 => [100, 105, 102, 102]
  | 16 => [102, 111, 114]
  | _ => [109, 101, 116]
def g_kbs : List (List Int32) := (List.range 18).map g_kb
def g_kls : List Nat := (List.range 18).map (fun i => (g_kb i).length)
def g_isA (comp : ClassId) (x : Class) : Bool := match x.kind with
  | .array component _ => component == comp
  | _ => false
theorem g_idx_bare (vm : Vm) (comp : ClassId) : vm.bare.classes.findIdx? (g_isA comp) = vm.classes.findIdx? (g_isA comp) := by
  simp only [Vm.bare, Array.findIdx?_map]
  rfl
def g_AOA (U : State) : Prop := ∃ comp c k, U.vm.findClass (FieldType.array .int).toString = some comp ∧ U.vm.classes.findIdx? (g_isA comp) = some c ∧ U.vm.classes[c]? = some k ∧ k.kind = .array comp (.array .int) ∧ U.vm.findClass ("[" ++ (FieldType.array .int).toString) = some c
theorem g_AOA.moved {u U : State} (hvm : u.vm.Alike U.vm) (h : g_AOA u) : g_AOA U := by
  obtain ⟨comp, c, k, h1, h2, h3, h4, h5⟩ := h
  obtain ⟨k', hk', he⟩ := hvm.2.2 _ _ h3
  refine ⟨comp, c, k', by rw [hvm.findClass]; exact h1, ?_, hk', by rw [he]; exact h4, by rw [hvm.findClass]; exact h5⟩
  rw [← g_idx_bare]
  first | rw [hvm.bare_eq] | rw [← hvm.bare_eq]
  rw [g_idx_bare]
  exact h2
def g_F1 (E : gE) (U : State) : Prop := ∀ i : Nat, i < 4 → va_Z (g_sC i) (g_sn i) "[I" (.ref (E.2.2.2 i)) (g_A E) U U.heap ∧ va_T .int (E.2.2.2 i) (g_sl i).length (fun j => .int (g_sf i j)) (g_A E) U U.heap
def g_F2 (E : gE) (U : State) : Prop := vk_S 18 g_kls g_kbs (fun i => E.2.2.2 (10 + i)) (fun i => E.2.2.2 (40 + i)) (g_A E) U U.heap ∧ (∀ i : Nat, i < 18 → vk_R (g_kC i) (g_kE i) (g_kT i) (E.2.2.2 (10 + i)) U) ∧ va_Z RJ0 "COMPACT_STRINGS" "Z" (.int 1) (g_A E) U U.heap ∧ va_Zq RJ3 "SIOOBE_FORMATTER" "Ljava/util/function/BiFunction;" (g_A E) U U.heap
def g_F3 (U : State) : Prop := (∀ w ∈ g_nest, va_Nw w U) ∧ va_AO RX2 U ∧ va_AO RX6 U ∧ va_AO RX4 U ∧ g_AOA U
def g_F (E : gE) (U : State) : Prop := g_F1 E U ∧ g_F2 E U ∧ g_F3 U
theorem g_F.to {E : gE} {s U : State} (hW : s.WarmedH U.vm) (hk : ∀ a : Nat, a < s.heap.size → ¬ g_A E a → U.heap[a]? = s.heap[a]?) (h : g_F E s) : g_F E U := by
  obtain ⟨h1, ⟨h2, h3, h4, h5⟩, h6, h7, h8, h9, h10⟩ := h
  refine ⟨fun i hi => ⟨((h1 i hi).1.moved hW.alike).kept hk, ((h1 i hi).2.moved hW.alike).kept hk⟩, ⟨(h2.moved hW.alike).kept hk, fun i hi => (h3 i hi).warm hW, (h4.moved hW.alike).kept hk, (h5.moved hW.alike).kept hk⟩, fun w hw => g_Nw_warm (g_nest_N w hw) hW (h6 w hw), h7.moved hW.alike, h8.moved hW.alike, h9.moved hW.alike, h10.moved hW.alike⟩
theorem g_F.same {E : gE} {s U : State} (hv : s.vm = U.vm) (hh : U.heap = s.heap) (h : g_F E s) : g_F E U := by
  have ha : s.vm.Alike U.vm := by rw [hv]; exact Vm.Alike.refl _
  have hk : ∀ a : Nat, a < s.heap.size → ¬ g_A E a → U.heap[a]? = s.heap[a]? := fun a _ _ => by rw [hh]
  obtain ⟨h1, ⟨h2, h3, h4, h5⟩, h6, h7, h8, h9, h10⟩ := h
  refine ⟨fun i hi => ⟨((h1 i hi).1.moved ha).kept hk, ((h1 i hi).2.moved ha).kept hk⟩, ⟨(h2.moved ha).kept hk, fun i hi => (h3 i hi).same hv.symm, (h4.moved ha).kept hk, (h5.moved ha).kept hk⟩, fun w hw => g_Nw_same (g_nest_N w hw) hv (h6 w hw), h7.moved ha, h8.moved ha, h9.moved ha, h10.moved ha⟩
/-! a point of a walk -/
def g_C (E : gE) (μ : gMeth) (d mc ms : Nat) (p : Program) (R : Room) (s : State) (m : MethodId) (args : Array Value) (meth : Method) (c : Code) : Prop :=
  p.tables.exec = Jvm.exec ∧ c.code = μ.2.1 ∧ meth.sig.returnType = μ.2.2.2 ∧ c.maxLocals = μ.2.2.1 ∧ s.vm.findClass μ.1.cls = some m.cls ∧ (∀ w ∈ g_tb, w.before args s = true) ∧ meth.locks = false ∧ meth.name = μ.1.name ∧ R = g_room d mc ms ∧ va_K E.1 vwCl (g_tys E) s ∧ g_F E s
def g_H (E : gE) (M : gMem) (s : State) (H : Heap) (locs : List Loc) : Prop := va_P E.1 vwCl (g_w E M) H ∧ H.size = E.2.2.1 + M.2.2.2.2 ∧ M.2.2.2.2 ≤ 1000000 ∧ va_S (g_A E) s.heap H locs ∧ E.2.2.1 ≤ s.heap.size
def g_L (E : gE) (nL : Nat) (al : List (Option Value)) (ls : Array Slot) : Prop := ls.size = nL ∧ lv_wf ls ∧ ∀ (i : Nat) (v : Value), al[i]? = some (some v) → ls[i]? = some (.val (g_v E v))
abbrev gPost : Type := Option Value → gMem → Prop
def g_Q (E : gE) (post : gPost) : Array Value → State → Outcome → State → Prop := fun _ st o t =>
  (∃ (r : Option Value) (M : gMem), o = .returned (r.map (g_v E)) ∧ post r M ∧ va_P E.1 vwCl (g_w E M) t.heap ∧ t.heap.size = E.2.2.1 + M.2.2.2.2 ∧ M.2.2.2.2 ≤ 1000000) ∧ va_F (g_A E) st t
def G (μ : gMeth) (d mc ms : Nat) (post : gPost) (nc ns : Nat) (M : gMem) (al : List (Option Value)) (pc : Nat) (st : List Value) : Prop :=
  ∀ (E : gE) (p : Program) (l : Launch) (e : Env) (R : Room) (s : State) (m : MethodId) (args : Array Value) (below : List Frame) (meth : Method) (c : Code) (H : Heap) (locs : List Loc) (ls : Array Slot),
    g_C E μ d mc ms p R s m args meth c → g_H E M s H locs → g_L E μ.2.2.1 al ls →
    W p l e R s m args below meth c H locs nc ns (MQ below (g_Q E post) args s mc ms (g_A E)) (F0 m pc ls (st.map (g_v E)))
def g_At (E : gE) (M : gMem) (U : State) : Prop := va_K E.1 vwCl (g_tys E) U ∧ va_P E.1 vwCl (g_w E M) U.heap ∧ U.heap.size = E.2.2.1 + M.2.2.2.2 ∧ M.2.2.2.2 ≤ 1000000 ∧ g_F E U
def gMet (μ : gMeth) (d mc ms : Nat) (av : List Value) (M : gMem) (post : gPost) : Prop :=
  ∀ (E : gE) (l : Launch), Met l μ.1 (g_ws μ) (g_room d mc ms) (va_Pc (av.map (g_v E)) (fun U => g_At E M U)) (g_Q E post) mc ms (g_A E)
/-- a method's locals at its entry -/
def g_en : List Value → List (Option Value)
  | [] => []
  | v :: vs => if v.category = 2 then some v :: none :: g_en vs else some v :: g_en vs
theorem g_v_cat (E : gE) (v : Value) : (g_v E v).category = v.category := by cases v <;> rfl
theorem g_en_at (E : gE) : ∀ (av : List Value) (o i : Nat) (v : Value) (z : Nat), (g_en av ++ List.replicate z none)[i]? = some (some v) → (o + i, g_v E v) ∈ lv_args o (av.map (g_v E)) := by
  intro av
  induction av with
  | nil =>
    intro o i v z h
    simp only [g_en, List.nil_append, List.getElem?_replicate] at h
    split at h <;> cases h
  | cons w vs ih =>
    intro o i v z h
    by_cases hc : w.category = 2
    · simp only [g_en, if_pos hc] at h
      simp only [List.map_cons, lv_args, g_v_cat, if_pos hc]
      match i, h with
      | 0, h =>
        simp at h
        subst h
        exact List.mem_cons_self
      | 1, h => simp at h
      | i + 2, h =>
        have := ih (o + 2) i v z (by simpa using h)
        rw [show o + (i + 2) = o + 2 + i by omega]
        exact List.mem_cons_of_mem _ this
    · simp only [g_en, if_neg hc] at h
      simp only [List.map_cons, lv_args, g_v_cat, if_neg hc]
      match i, h with
      | 0, h =>
        simp at h
        subst h
        exact List.mem_cons_self
      | i + 1, h =>
        have := ih (o + 1) i v z (by simpa using h)
        rw [show o + (i + 1) = o + 1 + i by omega]
        exact List.mem_cons_of_mem _ this
theorem g_en_len (E : gE) : ∀ av : List Value, (lg_sl (av.map (g_v E))).length = (g_en av).length := by
  intro av
  induction av with
  | nil => rfl
  | cons w vs ih =>
    simp only [lg_sl, List.map_cons, List.flatMap_cons, List.length_append] at ih ⊢
    rw [ih, g_v_cat]
    by_cases hc : w.category = 2
    · simp [g_en, hc]; omega
    · simp [g_en, hc]; omega
set_option maxHeartbeats 1000000 in
theorem gMet.of {μ : gMeth} {d mc ms : Nat} {av : List Value} {M : gMem} {post : gPost} {al : List (Option Value)} (hy : plainName μ.1.cls = true) (hal : g_en av ++ List.replicate (μ.2.2.1 - (g_en av).length) none = al) (hlen : (g_en av).length ≤ μ.2.2.1)
    (h : G μ d mc ms post 0 0 M al 0 []) : gMet μ d mc ms av M post := by
  intro E l
  refine Met.ofW (cc := μ.2.1) (maxL := μ.2.2.1) (ret := μ.2.2.2) hy rfl ?_
  intro p e s m args below meth c s₁ B hml hv
  obtain ⟨rfl, hK, hP, hz, hn, hF⟩ := hv
  have hts := atoms_spec (ws := g_ws μ) B.pre
  have hown : s.vm.findClass μ.1.cls = some m.cls := findClass_of_methodNamed B.named
  have hin : meth.name = μ.1.name := (name_of_methodNamed B.named B.method).1
  have hl := lv_entry (av.map (g_v E)) (n := μ.2.2.1) (by rw [g_en_len]; exact hlen)
  rw [lg_entry_eq]
  refine h E p l e _ s m _ below meth c s.heap [] _ ⟨B.exec, B.bytes, B.returns, hml, hown, fun w hw => hts w (List.mem_cons_of_mem _ hw), B.notSynchronized, hin, rfl, hK, hF⟩ ⟨hP, hz, hn, va_S.rf, by omega⟩ ⟨hl.1, hl.2.1, fun i v hi => ?_⟩
  rw [← hal] at hi
  have := g_en_at E av 0 i v _ hi
  rw [Nat.zero_add] at this
  exact hl.2.2 _ this
end
section
section GR
variable {μ : gMeth} {d mc ms : Nat} {post : gPost} {nc ns : Nat} {M : gMem} {al : List (Option Value)} {pc : Nat} {st : List Value}
theorem G_iadd {x y : Int32} (hd : decode μ.2.1 pc = .ok (.iadd, 1))  (k : G μ d mc ms post nc ns M al (pc + 1) (.int (x + y) :: st)) : G μ d mc ms post nc ns M al (pc) (.int y :: .int x :: st) := by
  intro E p l e R s m args below meth c H locs ls hC hH hL
  exact lv_iadd hC.1 hC.2.1 hd (k E p l e R s m args below meth c H locs ls hC hH hL)
theorem G_isub {x y : Int32} (hd : decode μ.2.1 pc = .ok (.isub, 1))  (k : G μ d mc ms post nc ns M al (pc + 1) (.int (x - y) :: st)) : G μ d mc ms post nc ns M al (pc) (.int y :: .int x :: st) := by
  intro E p l e R s m args below meth c H locs ls hC hH hL
  exact lv_isub hC.1 hC.2.1 hd (k E p l e R s m args below meth c H locs ls hC hH hL)
theorem G_imul {x y : Int32} (hd : decode μ.2.1 pc = .ok (.imul, 1))  (k : G μ d mc ms post nc ns M al (pc + 1) (.int (x * y) :: st)) : G μ d mc ms post nc ns M al (pc) (.int y :: .int x :: st) := by
  intro E p l e R s m args below meth c H locs ls hC hH hL
  exact lv_imul hC.1 hC.2.1 hd (k E p l e R s m args below meth c H locs ls hC hH hL)
theorem G_iand {x y : Int32} (hd : decode μ.2.1 pc = .ok (.iand, 1))  (k : G μ d mc ms post nc ns M al (pc + 1) (.int (x &&& y) :: st)) : G μ d mc ms post nc ns M al (pc) (.int y :: .int x :: st) := by
  intro E p l e R s m args below meth c H locs ls hC hH hL
  exact lv_iand hC.1 hC.2.1 hd (k E p l e R s m args below meth c H locs ls hC hH hL)
theorem G_ior {x y : Int32} (hd : decode μ.2.1 pc = .ok (.ior, 1))  (k : G μ d mc ms post nc ns M al (pc + 1) (.int (x ||| y) :: st)) : G μ d mc ms post nc ns M al (pc) (.int y :: .int x :: st) := by
  intro E p l e R s m args below meth c H locs ls hC hH hL
  exact lv_ior hC.1 hC.2.1 hd (k E p l e R s m args below meth c H locs ls hC hH hL)
theorem G_ixor {x y : Int32} (hd : decode μ.2.1 pc = .ok (.ixor, 1))  (k : G μ d mc ms post nc ns M al (pc + 1) (.int (x ^^^ y) :: st)) : G μ d mc ms post nc ns M al (pc) (.int y :: .int x :: st) := by
  intro E p l e R s m args below meth c H locs ls hC hH hL
  exact lv_ixor hC.1 hC.2.1 hd (k E p l e R s m args below meth c H locs ls hC hH hL)
theorem G_ishl {x y : Int32} (hd : decode μ.2.1 pc = .ok (.ishl, 1))  (k : G μ d mc ms post nc ns M al (pc + 1) (.int (x <<< (y &&& 31)) :: st)) : G μ d mc ms post nc ns M al (pc) (.int y :: .int x :: st) := by
  intro E p l e R s m args below meth c H locs ls hC hH hL
  exact lv_ishl hC.1 hC.2.1 hd (k E p l e R s m args below meth c H locs ls hC hH hL)
theorem G_ishr {x y : Int32} (hd : decode μ.2.1 pc = .ok (.ishr, 1))  (k : G μ d mc ms post nc ns M al (pc + 1) (.int (x >>> (y &&& 31)) :: st)) : G μ d mc ms post nc ns M al (pc) (.int y :: .int x :: st) := by
  intro E p l e R s m args below meth c H locs ls hC hH hL
  exact lv_ishr hC.1 hC.2.1 hd (k E p l e R s m args below meth c H locs ls hC hH hL)
theorem G_ladd {x y : Int64} (hd : decode μ.2.1 pc = .ok (.ladd, 1))  (k : G μ d mc ms post nc ns M al (pc + 1) (.long (x + y) :: st)) : G μ d mc ms post nc ns M al (pc) (.long y :: .long x :: st) := by
  intro E p l e R s m args below meth c H locs ls hC hH hL
  exact lv_ladd hC.1 hC.2.1 hd (k E p l e R s m args below meth c H locs ls hC hH hL)
theorem G_lsub {x y : Int64} (hd : decode μ.2.1 pc = .ok (.lsub, 1))  (k : G μ d mc ms post nc ns M al (pc + 1) (.long (x - y) :: st)) : G μ d mc ms post nc ns M al (pc) (.long y :: .long x :: st) := by
  intro E p l e R s m args below meth c H locs ls hC hH hL
  exact lv_lsub hC.1 hC.2.1 hd (k E p l e R s m args below meth c H locs ls hC hH hL)
theorem G_lmul {x y : Int64} (hd : decode μ.2.1 pc = .ok (.lmul, 1))  (k : G μ d mc ms post nc ns M al (pc + 1) (.long (x * y) :: st)) : G μ d mc ms post nc ns M al (pc) (.long y :: .long x :: st) := by
  intro E p l e R s m args below meth c H locs ls hC hH hL
  exact lv_lmul hC.1 hC.2.1 hd (k E p l e R s m args below meth c H locs ls hC hH hL)
theorem G_land {x y : Int64} (hd : decode μ.2.1 pc = .ok (.land, 1))  (k : G μ d mc ms post nc ns M al (pc + 1) (.long (x &&& y) :: st)) : G μ d mc ms post nc ns M al (pc) (.long y :: .long x :: st) := by
  intro E p l e R s m args below meth c H locs ls hC hH hL
  exact lv_land hC.1 hC.2.1 hd (k E p l e R s m args below meth c H locs ls hC hH hL)
theorem G_lor {x y : Int64} (hd : decode μ.2.1 pc = .ok (.lor, 1))  (k : G μ d mc ms post nc ns M al (pc + 1) (.long (x ||| y) :: st)) : G μ d mc ms post nc ns M al (pc) (.long y :: .long x :: st) := by
  intro E p l e R s m args below meth c H locs ls hC hH hL
  exact lv_lor hC.1 hC.2.1 hd (k E p l e R s m args below meth c H locs ls hC hH hL)
theorem G_idiv {x y : Int32} (hd : decode μ.2.1 pc = .ok (.idiv, 1)) (hne : ¬ y = 0) (k : G μ d mc ms post nc ns M al (pc + 1) (.int (x / y) :: st)) : G μ d mc ms post nc ns M al (pc) (.int y :: .int x :: st) := by
  intro E p l e R s m args below meth c H locs ls hC hH hL
  exact lv_idiv hC.1 hC.2.1 hd hne (k E p l e R s m args below meth c H locs ls hC hH hL)
theorem G_irem {x y : Int32} (hd : decode μ.2.1 pc = .ok (.irem, 1)) (hne : ¬ y = 0) (k : G μ d mc ms post nc ns M al (pc + 1) (.int (x - x / y * y) :: st)) : G μ d mc ms post nc ns M al (pc) (.int y :: .int x :: st) := by
  intro E p l e R s m args below meth c H locs ls hC hH hL
  exact lv_irem hC.1 hC.2.1 hd hne (k E p l e R s m args below meth c H locs ls hC hH hL)
theorem G_ldiv {x y : Int64} (hd : decode μ.2.1 pc = .ok (.ldiv, 1)) (hne : ¬ y = 0) (k : G μ d mc ms post nc ns M al (pc + 1) (.long (x / y) :: st)) : G μ d mc ms post nc ns M al (pc) (.long y :: .long x :: st) := by
  intro E p l e R s m args below meth c H locs ls hC hH hL
  exact lv_ldiv hC.1 hC.2.1 hd hne (k E p l e R s m args below meth c H locs ls hC hH hL)
theorem G_lrem {x y : Int64} (hd : decode μ.2.1 pc = .ok (.lrem, 1)) (hne : ¬ y = 0) (k : G μ d mc ms post nc ns M al (pc + 1) (.long (x - x / y * y) :: st)) : G μ d mc ms post nc ns M al (pc) (.long y :: .long x :: st) := by
  intro E p l e R s m args below meth c H locs ls hC hH hL
  exact lv_lrem hC.1 hC.2.1 hd hne (k E p l e R s m args below meth c H locs ls hC hH hL)
theorem G_ineg {x : Int32} (hd : decode μ.2.1 pc = .ok (.ineg, 1))  (k : G μ d mc ms post nc ns M al (pc + 1) (.int (-x) :: st)) : G μ d mc ms post nc ns M al (pc) (.int x :: st) := by
  intro E p l e R s m args below meth c H locs ls hC hH hL
  exact lv_ineg hC.1 hC.2.1 hd (k E p l e R s m args below meth c H locs ls hC hH hL)
theorem G_iushr {x y : Int32} (hd : decode μ.2.1 pc = .ok (.iushr, 1))  (k : G μ d mc ms post nc ns M al (pc + 1) (.int (x.toUInt32 >>> (y.toUInt32 &&& Int32.toUInt32 31)).toInt32 :: st)) : G μ d mc ms post nc ns M al (pc) (.int y :: .int x :: st) := by
  intro E p l e R s m args below meth c H locs ls hC hH hL
  exact lv_iushr hC.1 hC.2.1 hd rfl (k E p l e R s m args below meth c H locs ls hC hH hL)
theorem G_lushr {x : Int64} {y : Int32} (hd : decode μ.2.1 pc = .ok (.lushr, 1))  (k : G μ d mc ms post nc ns M al (pc + 1) (.long (x.toUInt64 >>> (y.toInt64.toUInt64 &&& Int64.toUInt64 63)).toInt64 :: st)) : G μ d mc ms post nc ns M al (pc) (.int y :: .long x :: st) := by
  intro E p l e R s m args below meth c H locs ls hC hH hL
  exact lv_lushr hC.1 hC.2.1 hd rfl (k E p l e R s m args below meth c H locs ls hC hH hL)
theorem G_lshr {x : Int64} {y : Int32} (hd : decode μ.2.1 pc = .ok (.lshr, 1))  (k : G μ d mc ms post nc ns M al (pc + 1) (.long (x >>> (y.toInt64 &&& 63)) :: st)) : G μ d mc ms post nc ns M al (pc) (.int y :: .long x :: st) := by
  intro E p l e R s m args below meth c H locs ls hC hH hL
  exact lv_lshr hC.1 hC.2.1 hd rfl (k E p l e R s m args below meth c H locs ls hC hH hL)
theorem G_lshl {x : Int64} {y : Int32} (hd : decode μ.2.1 pc = .ok (.lshl, 1))  (k : G μ d mc ms post nc ns M al (pc + 1) (.long (x <<< (y.toInt64 &&& 63)) :: st)) : G μ d mc ms post nc ns M al (pc) (.int y :: .long x :: st) := by
  intro E p l e R s m args below meth c H locs ls hC hH hL
  exact lv_lshl hC.1 hC.2.1 hd rfl (k E p l e R s m args below meth c H locs ls hC hH hL)
theorem G_lcmp {x y : Int64} (hd : decode μ.2.1 pc = .ok (.lcmp, 1))  (k : G μ d mc ms post nc ns M al (pc + 1) (.int (lg_cmp x y) :: st)) : G μ d mc ms post nc ns M al (pc) (.long y :: .long x :: st) := by
  intro E p l e R s m args below meth c H locs ls hC hH hL
  exact W.lcmp hC.1 hC.2.1 hd (k E p l e R s m args below meth c H locs ls hC hH hL)
theorem G_i2l {x : Int32} (hd : decode μ.2.1 pc = .ok (.i2l, 1))  (k : G μ d mc ms post nc ns M al (pc + 1) (.long x.toInt64 :: st)) : G μ d mc ms post nc ns M al (pc) (.int x :: st) := by
  intro E p l e R s m args below meth c H locs ls hC hH hL
  exact lv_i2l hC.1 hC.2.1 hd rfl (k E p l e R s m args below meth c H locs ls hC hH hL)
theorem G_l2i {x : Int64} (hd : decode μ.2.1 pc = .ok (.l2i, 1))  (k : G μ d mc ms post nc ns M al (pc + 1) (.int x.toInt32 :: st)) : G μ d mc ms post nc ns M al (pc) (.long x :: st) := by
  intro E p l e R s m args below meth c H locs ls hC hH hL
  exact lv_l2i hC.1 hC.2.1 hd rfl (k E p l e R s m args below meth c H locs ls hC hH hL)
theorem G_i2c {x : Int32} (hd : decode μ.2.1 pc = .ok (.i2c, 1))  (k : G μ d mc ms post nc ns M al (pc + 1) (.int (x.toUInt32 % 65536).toInt32 :: st)) : G μ d mc ms post nc ns M al (pc) (.int x :: st) := by
  intro E p l e R s m args below meth c H locs ls hC hH hL
  exact lv_i2c hC.1 hC.2.1 hd rfl (k E p l e R s m args below meth c H locs ls hC hH hL)
theorem G_iconst {n : Int} (v : Int32) (hd : decode μ.2.1 pc = .ok (.iconst n, 1)) (hv : Int32.ofInt n = v) (k : G μ d mc ms post nc ns M al (pc + 1) (.int v :: st)) : G μ d mc ms post nc ns M al (pc) (st) := by
  intro E p l e R s m args below meth c H locs ls hC hH hL
  exact lv_iconst hC.1 hC.2.1 hd hv (k E p l e R s m args below meth c H locs ls hC hH hL)
theorem G_bipush {n : Int} (v : Int32) (hd : decode μ.2.1 pc = .ok (.bipush n, 2)) (hv : (Int8.ofInt n).toInt32 = v) (k : G μ d mc ms post nc ns M al (pc + 2) (.int v :: st)) : G μ d mc ms post nc ns M al (pc) (st) := by
  intro E p l e R s m args below meth c H locs ls hC hH hL
  exact lv_bipush hC.1 hC.2.1 hd hv (k E p l e R s m args below meth c H locs ls hC hH hL)
theorem G_sipush {n : Int} (v : Int32) (hd : decode μ.2.1 pc = .ok (.sipush n, 3)) (hv : (Int16.ofInt n).toInt32 = v) (k : G μ d mc ms post nc ns M al (pc + 3) (.int v :: st)) : G μ d mc ms post nc ns M al (pc) (st) := by
  intro E p l e R s m args below meth c H locs ls hC hH hL
  exact lv_sipush hC.1 hC.2.1 hd hv (k E p l e R s m args below meth c H locs ls hC hH hL)
theorem G_lconst {n : Fin 2} (v : Int64) (hd : decode μ.2.1 pc = .ok (.lconst n, 1)) (hv : Int64.ofNat (n : Nat) = v) (k : G μ d mc ms post nc ns M al (pc + 1) (.long v :: st)) : G μ d mc ms post nc ns M al (pc) (st) := by
  intro E p l e R s m args below meth c H locs ls hC hH hL
  exact lv_lconst hC.1 hC.2.1 hd hv (k E p l e R s m args below meth c H locs ls hC hH hL)
theorem G_ldc2 {index : Nat} (v : Int64) (hd : decode μ.2.1 pc = .ok (.ldc2_w index, 3)) (hw : Cond.constantLong μ.1.cls index v ∈ g_tb) (k : G μ d mc ms post nc ns M al (pc + 3) (.long v :: st)) : G μ d mc ms post nc ns M al (pc) (st) := by
  intro E p l e R s m args below meth c H locs ls hC hH hL
  exact lv_ldc2 hC.1 hC.2.1 hC.2.2.2.2.1 (hC.2.2.2.2.2.1 _ hw) hd (k E p l e R s m args below meth c H locs ls hC hH hL)
theorem G_ldcw {index : Nat} (v : Int32) (hd : decode μ.2.1 pc = .ok (.ldc_w index, 3)) (hw : Cond.constant μ.1.cls index v ∈ g_tb) (k : G μ d mc ms post nc ns M al (pc + 3) (.int v :: st)) : G μ d mc ms post nc ns M al (pc) (st) := by
  intro E p l e R s m args below meth c H locs ls hC hH hL
  exact lv_ldcw hC.1 hC.2.1 hC.2.2.2.2.1 (hC.2.2.2.2.2.1 _ hw) hd (k E p l e R s m args below meth c H locs ls hC hH hL)
theorem G_null  (hd : decode μ.2.1 pc = .ok (.aconst_null, 1))  (k : G μ d mc ms post nc ns M al (pc + 1) (.null :: st)) : G μ d mc ms post nc ns M al (pc) (st) := by
  intro E p l e R s m args below meth c H locs ls hC hH hL
  exact lv_null hC.1 hC.2.1 hd (k E p l e R s m args below meth c H locs ls hC hH hL)
theorem G_dup {v : Value} (hd : decode μ.2.1 pc = .ok (.dup, 1)) (hv : v.category = 1) (k : G μ d mc ms post nc ns M al (pc + 1) (v :: v :: st)) : G μ d mc ms post nc ns M al (pc) (v :: st) := by
  intro E p l e R s m args below meth c H locs ls hC hH hL
  exact lv_dup hC.1 hC.2.1 hd (by rw [g_v_cat]; exact hv) (k E p l e R s m args below meth c H locs ls hC hH hL)
theorem G_pop {v : Value} (hd : decode μ.2.1 pc = .ok (.pop, 1)) (hv : v.category = 1) (k : G μ d mc ms post nc ns M al (pc + 1) (st)) : G μ d mc ms post nc ns M al (pc) (v :: st) := by
  intro E p l e R s m args below meth c H locs ls hC hH hL
  exact lv_pop hC.1 hC.2.1 hd (by rw [g_v_cat]; exact hv) (k E p l e R s m args below meth c H locs ls hC hH hL)
theorem G_dup_x1 {v w : Value} (hd : decode μ.2.1 pc = .ok (.dup_x1, 1)) (hv : v.category = 1) (hw : w.category = 1) (k : G μ d mc ms post nc ns M al (pc + 1) (v :: w :: v :: st)) : G μ d mc ms post nc ns M al (pc) (v :: w :: st) := by
  intro E p l e R s m args below meth c H locs ls hC hH hL
  exact lv_dup_x1 hC.1 hC.2.1 hd (by rw [g_v_cat]; exact hv) (by rw [g_v_cat]; exact hw) (k E p l e R s m args below meth c H locs ls hC hH hL)
theorem G_dup2 {v w : Value} (hd : decode μ.2.1 pc = .ok (.dup2, 1)) (hv : v.category = 1) (hw : w.category = 1) (k : G μ d mc ms post nc ns M al (pc + 1) (v :: w :: v :: w :: st)) : G μ d mc ms post nc ns M al (pc) (v :: w :: st) := by
  intro E p l e R s m args below meth c H locs ls hC hH hL
  exact lv_dup2_11 hC.1 hC.2.1 hd (by rw [g_v_cat]; exact hv) (by rw [g_v_cat]; exact hw) (k E p l e R s m args below meth c H locs ls hC hH hL)
theorem G_iload {i : Nat} {x : Int32} (hd : decode μ.2.1 pc = .ok (.iload i, 2)) (hl : al[i]? = some (some (.int x))) (k : G μ d mc ms post nc ns M al (pc + 2) (.int x :: st)) : G μ d mc ms post nc ns M al (pc) (st) := by
  intro E p l e R s m args below meth c H locs ls hC hH hL
  exact lv_iload hC.1 hC.2.1 hd (hL.2.2 _ _ hl) (k E p l e R s m args below meth c H locs ls hC hH hL)
theorem G_iload_n {i : Fin 4} {x : Int32} (hd : decode μ.2.1 pc = .ok (.iload_n i, 1)) (hl : al[(i : Nat)]? = some (some (.int x))) (k : G μ d mc ms post nc ns M al (pc + 1) (.int x :: st)) : G μ d mc ms post nc ns M al (pc) (st) := by
  intro E p l e R s m args below meth c H locs ls hC hH hL
  exact lv_iload_n hC.1 hC.2.1 hd rfl (hL.2.2 _ _ hl) (k E p l e R s m args below meth c H locs ls hC hH hL)
theorem G_lload {i : Nat} {x : Int64} (hd : decode μ.2.1 pc = .ok (.lload i, 2)) (hl : al[i]? = some (some (.long x))) (k : G μ d mc ms post nc ns M al (pc + 2) (.long x :: st)) : G μ d mc ms post nc ns M al (pc) (st) := by
  intro E p l e R s m args below meth c H locs ls hC hH hL
  exact lv_lload hC.1 hC.2.1 hd (hL.2.2 _ _ hl) (k E p l e R s m args below meth c H locs ls hC hH hL)
theorem G_lload_n {i : Fin 4} {x : Int64} (hd : decode μ.2.1 pc = .ok (.lload_n i, 1)) (hl : al[(i : Nat)]? = some (some (.long x))) (k : G μ d mc ms post nc ns M al (pc + 1) (.long x :: st)) : G μ d mc ms post nc ns M al (pc) (st) := by
  intro E p l e R s m args below meth c H locs ls hC hH hL
  exact lv_lload_n hC.1 hC.2.1 hd rfl (hL.2.2 _ _ hl) (k E p l e R s m args below meth c H locs ls hC hH hL)
theorem G_aload {i : Nat} {x : Nat} (hd : decode μ.2.1 pc = .ok (.aload i, 2)) (hl : al[i]? = some (some (.ref x))) (k : G μ d mc ms post nc ns M al (pc + 2) (.ref x :: st)) : G μ d mc ms post nc ns M al (pc) (st) := by
  intro E p l e R s m args below meth c H locs ls hC hH hL
  exact lv_aload (x := g_ad E x) hC.1 hC.2.1 hd (hL.2.2 _ _ hl) (k E p l e R s m args below meth c H locs ls hC hH hL)
theorem G_aload_n {i : Fin 4} {x : Nat} (hd : decode μ.2.1 pc = .ok (.aload_n i, 1)) (hl : al[(i : Nat)]? = some (some (.ref x))) (k : G μ d mc ms post nc ns M al (pc + 1) (.ref x :: st)) : G μ d mc ms post nc ns M al (pc) (st) := by
  intro E p l e R s m args below meth c H locs ls hC hH hL
  exact lv_aload_n (x := g_ad E x) hC.1 hC.2.1 hd rfl (hL.2.2 _ _ hl) (k E p l e R s m args below meth c H locs ls hC hH hL)
theorem G_aloadN {i : Nat} (hd : decode μ.2.1 pc = .ok (.aload i, 2)) (hl : al[i]? = some (some .null)) (k : G μ d mc ms post nc ns M al (pc + 2) (.null :: st)) : G μ d mc ms post nc ns M al (pc) (st) := by
  intro E p l e R s m args below meth c H locs ls hC hH hL
  exact lv_aloadN hC.1 hC.2.1 hd (hL.2.2 _ _ hl) (k E p l e R s m args below meth c H locs ls hC hH hL)
theorem G_aload_nN {i : Fin 4} (hd : decode μ.2.1 pc = .ok (.aload_n i, 1)) (hl : al[(i : Nat)]? = some (some .null)) (k : G μ d mc ms post nc ns M al (pc + 1) (.null :: st)) : G μ d mc ms post nc ns M al (pc) (st) := by
  intro E p l e R s m args below meth c H locs ls hC hH hL
  exact lv_aload_nN hC.1 hC.2.1 hd rfl (hL.2.2 _ _ hl) (k E p l e R s m args below meth c H locs ls hC hH hL)
theorem G_icmp_eq {x y : Int32} {off : Int} (tgt : Nat) (hd : decode μ.2.1 pc = .ok (.if_icmp .eq off, 3)) (ht : (pc : Int) + off = (tgt : Int)) (kt : x = y → G μ d mc ms post nc ns M al (tgt) (st)) (kf : ¬ x = y → G μ d mc ms post nc ns M al (pc + 3) (st)) : G μ d mc ms post nc ns M al (pc) (.int y :: .int x :: st) := by
  intro E p l e R s m args below meth c H locs ls hC hH hL
  exact lv_icmp_eq hC.1 hC.2.1 hd ht (fun h => kt h E p l e R s m args below meth c H locs ls hC hH hL) (fun h => kf h E p l e R s m args below meth c H locs ls hC hH hL)
theorem G_icmp_ne {x y : Int32} {off : Int} (tgt : Nat) (hd : decode μ.2.1 pc = .ok (.if_icmp .ne off, 3)) (ht : (pc : Int) + off = (tgt : Int)) (kt : ¬ x = y → G μ d mc ms post nc ns M al (tgt) (st)) (kf : x = y → G μ d mc ms post nc ns M al (pc + 3) (st)) : G μ d mc ms post nc ns M al (pc) (.int y :: .int x :: st) := by
  intro E p l e R s m args below meth c H locs ls hC hH hL
  exact lv_icmp_ne hC.1 hC.2.1 hd ht (fun h => kt h E p l e R s m args below meth c H locs ls hC hH hL) (fun h => kf h E p l e R s m args below meth c H locs ls hC hH hL)
theorem G_icmp_lt {x y : Int32} {off : Int} (tgt : Nat) (hd : decode μ.2.1 pc = .ok (.if_icmp .lt off, 3)) (ht : (pc : Int) + off = (tgt : Int)) (kt : x < y → G μ d mc ms post nc ns M al (tgt) (st)) (kf : ¬ x < y → G μ d mc ms post nc ns M al (pc + 3) (st)) : G μ d mc ms post nc ns M al (pc) (.int y :: .int x :: st) := by
  intro E p l e R s m args below meth c H locs ls hC hH hL
  exact lv_icmp_lt hC.1 hC.2.1 hd ht (fun h => kt h E p l e R s m args below meth c H locs ls hC hH hL) (fun h => kf h E p l e R s m args below meth c H locs ls hC hH hL)
theorem G_icmp_ge {x y : Int32} {off : Int} (tgt : Nat) (hd : decode μ.2.1 pc = .ok (.if_icmp .ge off, 3)) (ht : (pc : Int) + off = (tgt : Int)) (kt : y ≤ x → G μ d mc ms post nc ns M al (tgt) (st)) (kf : ¬ y ≤ x → G μ d mc ms post nc ns M al (pc + 3) (st)) : G μ d mc ms post nc ns M al (pc) (.int y :: .int x :: st) := by
  intro E p l e R s m args below meth c H locs ls hC hH hL
  exact lv_icmp_ge hC.1 hC.2.1 hd ht (fun h => kt h E p l e R s m args below meth c H locs ls hC hH hL) (fun h => kf h E p l e R s m args below meth c H locs ls hC hH hL)
theorem G_icmp_gt {x y : Int32} {off : Int} (tgt : Nat) (hd : decode μ.2.1 pc = .ok (.if_icmp .gt off, 3)) (ht : (pc : Int) + off = (tgt : Int)) (kt : y < x → G μ d mc ms post nc ns M al (tgt) (st)) (kf : ¬ y < x → G μ d mc ms post nc ns M al (pc + 3) (st)) : G μ d mc ms post nc ns M al (pc) (.int y :: .int x :: st) := by
  intro E p l e R s m args below meth c H locs ls hC hH hL
  exact lv_icmp_gt hC.1 hC.2.1 hd ht (fun h => kt h E p l e R s m args below meth c H locs ls hC hH hL) (fun h => kf h E p l e R s m args below meth c H locs ls hC hH hL)
theorem G_icmp_le {x y : Int32} {off : Int} (tgt : Nat) (hd : decode μ.2.1 pc = .ok (.if_icmp .le off, 3)) (ht : (pc : Int) + off = (tgt : Int)) (kt : x ≤ y → G μ d mc ms post nc ns M al (tgt) (st)) (kf : ¬ x ≤ y → G μ d mc ms post nc ns M al (pc + 3) (st)) : G μ d mc ms post nc ns M al (pc) (.int y :: .int x :: st) := by
  intro E p l e R s m args below meth c H locs ls hC hH hL
  exact lv_icmp_le hC.1 hC.2.1 hd ht (fun h => kt h E p l e R s m args below meth c H locs ls hC hH hL) (fun h => kf h E p l e R s m args below meth c H locs ls hC hH hL)
theorem G_if_eq {x : Int32} {off : Int} (tgt : Nat) (hd : decode μ.2.1 pc = .ok (.ifCond .eq off, 3)) (ht : (pc : Int) + off = (tgt : Int)) (kt : x = 0 → G μ d mc ms post nc ns M al (tgt) (st)) (kf : ¬ x = 0 → G μ d mc ms post nc ns M al (pc + 3) (st)) : G μ d mc ms post nc ns M al (pc) (.int x :: st) := by
  intro E p l e R s m args below meth c H locs ls hC hH hL
  exact lv_if_eq hC.1 hC.2.1 hd ht (fun h => kt h E p l e R s m args below meth c H locs ls hC hH hL) (fun h => kf h E p l e R s m args below meth c H locs ls hC hH hL)
theorem G_if_ne {x : Int32} {off : Int} (tgt : Nat) (hd : decode μ.2.1 pc = .ok (.ifCond .ne off, 3)) (ht : (pc : Int) + off = (tgt : Int)) (kt : ¬ x = 0 → G μ d mc ms post nc ns M al (tgt) (st)) (kf : x = 0 → G μ d mc ms post nc ns M al (pc + 3) (st)) : G μ d mc ms post nc ns M al (pc) (.int x :: st) := by
  intro E p l e R s m args below meth c H locs ls hC hH hL
  exact lv_if_ne hC.1 hC.2.1 hd ht (fun h => kt h E p l e R s m args below meth c H locs ls hC hH hL) (fun h => kf h E p l e R s m args below meth c H locs ls hC hH hL)
theorem G_if_lt {x : Int32} {off : Int} (tgt : Nat) (hd : decode μ.2.1 pc = .ok (.ifCond .lt off, 3)) (ht : (pc : Int) + off = (tgt : Int)) (kt : x < 0 → G μ d mc ms post nc ns M al (tgt) (st)) (kf : ¬ x < 0 → G μ d mc ms post nc ns M al (pc + 3) (st)) : G μ d mc ms post nc ns M al (pc) (.int x :: st) := by
  intro E p l e R s m args below meth c H locs ls hC hH hL
  exact lv_if_lt hC.1 hC.2.1 hd ht (fun h => kt h E p l e R s m args below meth c H locs ls hC hH hL) (fun h => kf h E p l e R s m args below meth c H locs ls hC hH hL)
theorem G_if_ge {x : Int32} {off : Int} (tgt : Nat) (hd : decode μ.2.1 pc = .ok (.ifCond .ge off, 3)) (ht : (pc : Int) + off = (tgt : Int)) (kt : 0 ≤ x → G μ d mc ms post nc ns M al (tgt) (st)) (kf : ¬ 0 ≤ x → G μ d mc ms post nc ns M al (pc + 3) (st)) : G μ d mc ms post nc ns M al (pc) (.int x :: st) := by
  intro E p l e R s m args below meth c H locs ls hC hH hL
  exact lv_if_ge hC.1 hC.2.1 hd ht (fun h => kt h E p l e R s m args below meth c H locs ls hC hH hL) (fun h => kf h E p l e R s m args below meth c H locs ls hC hH hL)
theorem G_if_gt {x : Int32} {off : Int} (tgt : Nat) (hd : decode μ.2.1 pc = .ok (.ifCond .gt off, 3)) (ht : (pc : Int) + off = (tgt : Int)) (kt : 0 < x → G μ d mc ms post nc ns M al (tgt) (st)) (kf : ¬ 0 < x → G μ d mc ms post nc ns M al (pc + 3) (st)) : G μ d mc ms post nc ns M al (pc) (.int x :: st) := by
  intro E p l e R s m args below meth c H locs ls hC hH hL
  exact lv_if_gt hC.1 hC.2.1 hd ht (fun h => kt h E p l e R s m args below meth c H locs ls hC hH hL) (fun h => kf h E p l e R s m args below meth c H locs ls hC hH hL)
theorem G_if_le {x : Int32} {off : Int} (tgt : Nat) (hd : decode μ.2.1 pc = .ok (.ifCond .le off, 3)) (ht : (pc : Int) + off = (tgt : Int)) (kt : x ≤ 0 → G μ d mc ms post nc ns M al (tgt) (st)) (kf : ¬ x ≤ 0 → G μ d mc ms post nc ns M al (pc + 3) (st)) : G μ d mc ms post nc ns M al (pc) (.int x :: st) := by
  intro E p l e R s m args below meth c H locs ls hC hH hL
  exact lv_if_le hC.1 hC.2.1 hd ht (fun h => kt h E p l e R s m args below meth c H locs ls hC hH hL) (fun h => kf h E p l e R s m args below meth c H locs ls hC hH hL)
theorem G_goto {off : Int} (tgt : Nat) (hd : decode μ.2.1 pc = .ok (.goto off, 3)) (ht : (pc : Int) + off = (tgt : Int)) (k : G μ d mc ms post nc ns M al (tgt) (st)) : G μ d mc ms post nc ns M al (pc) (st) := by
  intro E p l e R s m args below meth c H locs ls hC hH hL
  exact lv_goto hC.1 hC.2.1 hd ht (k E p l e R s m args below meth c H locs ls hC hH hL)
theorem G_ifnonnull {x : Nat} {off : Int} (tgt : Nat) (hd : decode μ.2.1 pc = .ok (.ifnonnull off, 3)) (ht : (pc : Int) + off = (tgt : Int)) (k : G μ d mc ms post nc ns M al (tgt) (st)) : G μ d mc ms post nc ns M al (pc) (.ref x :: st) := by
  intro E p l e R s m args below meth c H locs ls hC hH hL
  exact lv_ifnonnull hC.1 hC.2.1 hd ht (k E p l e R s m args below meth c H locs ls hC hH hL)
theorem G_ifnonnullN {off : Int} (hd : decode μ.2.1 pc = .ok (.ifnonnull off, 3)) (k : G μ d mc ms post nc ns M al (pc + 3) (st)) : G μ d mc ms post nc ns M al (pc) (.null :: st) := by
  intro E p l e R s m args below meth c H locs ls hC hH hL
  exact lv_ifnonnullN hC.1 hC.2.1 hd (k E p l e R s m args below meth c H locs ls hC hH hL)
theorem G_ifnull {x : Nat} {off : Int} (hd : decode μ.2.1 pc = .ok (.ifnull off, 3)) (k : G μ d mc ms post nc ns M al (pc + 3) (st)) : G μ d mc ms post nc ns M al (pc) (.ref x :: st) := by
  intro E p l e R s m args below meth c H locs ls hC hH hL
  exact lv_ifnull hC.1 hC.2.1 hd (k E p l e R s m args below meth c H locs ls hC hH hL)
theorem G_ifnullN {off : Int} (tgt : Nat) (hd : decode μ.2.1 pc = .ok (.ifnull off, 3)) (ht : (pc : Int) + off = (tgt : Int)) (k : G μ d mc ms post nc ns M al (tgt) (st)) : G μ d mc ms post nc ns M al (pc) (.null :: st) := by
  intro E p l e R s m args below meth c H locs ls hC hH hL
  exact lv_ifnullN hC.1 hC.2.1 hd ht (k E p l e R s m args below meth c H locs ls hC hH hL)
theorem G_tableOut {dflt lo hi : Int} {offs : Array Int} {len : Nat} {x : Int32} (tgt : Nat) (hd : decode μ.2.1 pc = .ok (.tableswitch dflt lo hi offs, len)) (h : x.toInt < lo ∨ hi < x.toInt) (ht : (pc : Int) + dflt = (tgt : Int)) (k : G μ d mc ms post nc ns M al (tgt) (st)) : G μ d mc ms post nc ns M al (pc) (.int x :: st) := by
  intro E p l e R s m args below meth c H locs ls hC hH hL
  exact lv_tableOut hC.1 hC.2.1 hd h ht (k E p l e R s m args below meth c H locs ls hC hH hL)
theorem G_tableIn {dflt lo hi : Int} {offs : Array Int} {len : Nat} {x : Int32} {off : Int} (tgt : Nat) (hd : decode μ.2.1 pc = .ok (.tableswitch dflt lo hi offs, len)) (h1 : ¬ x.toInt < lo) (h2 : ¬ hi < x.toInt) (ho : offs[(x.toInt - lo).toNat]? = some off) (ht : (pc : Int) + off = (tgt : Int)) (k : G μ d mc ms post nc ns M al (tgt) (st)) : G μ d mc ms post nc ns M al (pc) (.int x :: st) := by
  intro E p l e R s m args below meth c H locs ls hC hH hL
  exact lv_tableIn hC.1 hC.2.1 hd h1 h2 ho ht (k E p l e R s m args below meth c H locs ls hC hH hL)
theorem G_lookup {dflt : Int} {ps : Array (Int × Int)} {len : Nat} {x : Int32} {off : Int} (tgt : Nat) (hd : decode μ.2.1 pc = .ok (.lookupswitch dflt ps, len)) (hp : (ps.toList.zip (ps.toList.drop 1)).all (fun (a, next) => a.1 < next.1) = true) (ho : Op.lookupswitch.offset ps.toList dflt x.toInt = off) (ht : (pc : Int) + off = (tgt : Int)) (k : G μ d mc ms post nc ns M al (tgt) (st)) : G μ d mc ms post nc ns M al (pc) (.int x :: st) := by
  intro E p l e R s m args below meth c H locs ls hC hH hL
  exact lv_lookup hC.1 hC.2.1 hd hp ho ht (k E p l e R s m args below meth c H locs ls hC hH hL)
/-! locals -/
def g_c2 (a : Option Value) (n : Nat) : Option Value := match n, a with
  | 0, some (.long _) => none
  | 0, some (.double _) => none
  | _, a => a
def g_s1 : List (Option Value) → Nat → Value → List (Option Value)
  | [], _, _ => []
  | _ :: l, 0, v => some v :: l
  | a :: l, n + 1, v => g_c2 a n :: g_s1 l n v
def g_s2 : List (Option Value) → Nat → Value → List (Option Value)
  | [], _, _ => []
  | _ :: l, 0, v => some v :: (match l with
    | [] => []
    | _ :: l => none :: l)
  | a :: l, n + 1, v => g_c2 a n :: g_s2 l n v
theorem g_c2_some {a : Option Value} {n : Nat} {w : Value} (h : g_c2 a n = some w) : a = some w ∧ ¬ (n = 0 ∧ w.category = 2) := by
  unfold g_c2 at h
  split at h
  · cases h
  · cases h
  · refine ⟨h, ?_⟩
    rintro ⟨rfl, hc⟩
    subst h
    cases w <;> simp_all [Value.category]
theorem g_s1_at : ∀ (al : List (Option Value)) (i j : Nat) (v w : Value), (g_s1 al i v)[j]? = some (some w) → (j = i ∧ w = v) ∨ (j ≠ i ∧ al[j]? = some (some w) ∧ ¬ (j + 1 = i ∧ w.category = 2)) := by
  intro al
  induction al with
  | nil => intro i j v w h; simp [g_s1] at h
  | cons a l ih =>
    intro i j v w h
    match i, j, h with
    | 0, 0, h => simp [g_s1] at h; exact Or.inl ⟨rfl, h.symm⟩
    | 0, j + 1, h => simp [g_s1] at h; exact Or.inr ⟨by omega, by simpa using h, by omega⟩
    | i + 1, 0, h =>
      simp [g_s1] at h
      obtain ⟨h1, h2⟩ := g_c2_some h
      exact Or.inr ⟨by omega, by simpa using h1, fun q => h2 ⟨by omega, q.2⟩⟩
    | i + 1, j + 1, h =>
      rcases ih i j v w (by simpa [g_s1] using h) with ⟨h1, h2⟩ | ⟨h1, h2, h3⟩
      · exact Or.inl ⟨by omega, h2⟩
      · exact Or.inr ⟨by omega, by simpa using h2, fun q => h3 ⟨by omega, q.2⟩⟩
theorem g_s2_at : ∀ (al : List (Option Value)) (i j : Nat) (v w : Value), (g_s2 al i v)[j]? = some (some w) → (j = i ∧ w = v) ∨ (j ≠ i ∧ j ≠ i + 1 ∧ al[j]? = some (some w) ∧ ¬ (j + 1 = i ∧ w.category = 2)) := by
  intro al
  induction al with
  | nil => intro i j v w h; simp [g_s2] at h
  | cons a l ih =>
    intro i j v w h
    match i, j, h with
    | 0, 0, h => simp [g_s2] at h; exact Or.inl ⟨rfl, h.symm⟩
    | 0, j + 1, h =>
      match l, h with
      | [], h => simp [g_s2] at h
      | b :: l, h =>
        match j, h with
        | 0, h => simp [g_s2] at h
        | j + 1, h => simp [g_s2] at h; exact Or.inr ⟨by omega, by omega, by simpa using h, by omega⟩
    | i + 1, 0, h =>
      simp [g_s2] at h
      obtain ⟨h1, h2⟩ := g_c2_some h
      exact Or.inr ⟨by omega, by omega, by simpa using h1, fun q => h2 ⟨by omega, q.2⟩⟩
    | i + 1, j + 1, h =>
      rcases ih i j v w (by simpa [g_s2] using h) with ⟨h1, h2⟩ | ⟨h1, h0, h2, h3⟩
      · exact Or.inl ⟨by omega, h2⟩
      · exact Or.inr ⟨by omega, by omega, by simpa using h2, fun q => h3 ⟨by omega, q.2⟩⟩
def g_lv (E : gE) (al : List (Option Value)) : List (Nat × Value) := al.zipIdx.filterMap (fun q => q.1.map (fun v => (q.2, g_v E v)))
theorem g_lv_mem {E : gE} {al : List (Option Value)} {i : Nat} {v : Value} (h : al[i]? = some (some v)) : (i, g_v E v) ∈ g_lv E al := by
  refine List.mem_filterMap.mpr ⟨(some v, i), ?_, rfl⟩
  exact List.mem_zipIdx_iff_getElem?.mpr h
theorem g_lv_has {E : gE} {nL : Nat} {al : List (Option Value)} {ls : Array Slot} (h : g_L E nL al ls) : lv_has ls nL (g_lv E al) := by
  refine ⟨h.1, h.2.1, fun q hq => ?_⟩
  obtain ⟨⟨o, i⟩, h1, h2⟩ := List.mem_filterMap.mp hq
  have h3 := List.mem_zipIdx_iff_getElem?.mp h1
  cases o with
  | none => cases h2
  | some v =>
    cases h2
    exact h.2.2 i v h3
theorem g_L_s1 {E : gE} {nL i : Nat} {al : List (Option Value)} {ls : Array Slot} {v : Value} (h : lv_has ls nL ((i, g_v E v) :: (g_lv E al).filter (fun q => !(q.1 == i) && !(q.1 + 1 == i && q.2.category == 2)))) : g_L E nL (g_s1 al i v) ls := by
  refine ⟨h.1, h.2.1, fun j w hj => ?_⟩
  rcases g_s1_at al i j v w hj with ⟨rfl, rfl⟩ | ⟨h1, h2, h3⟩
  · exact h.2.2 _ List.mem_cons_self
  · refine h.2.2 (j, g_v E w) (List.mem_cons_of_mem _ (List.mem_filter.mpr ⟨g_lv_mem h2, ?_⟩))
    simp only [g_v_cat, Bool.and_eq_true, Bool.not_eq_true', Bool.and_eq_false_iff, beq_eq_false_iff_ne]
    refine ⟨h1, ?_⟩
    by_cases q : j + 1 = i
    · exact Or.inr (fun z => h3 ⟨q, z⟩)
    · exact Or.inl q
theorem g_L_s2 {E : gE} {nL i : Nat} {al : List (Option Value)} {ls : Array Slot} {v : Value} (h : lv_has ls nL ((i, g_v E v) :: (g_lv E al).filter (fun q => !(q.1 == i) && (!(q.1 == i + 1) && !(q.1 + 1 == i && q.2.category == 2))))) : g_L E nL (g_s2 al i v) ls := by
  refine ⟨h.1, h.2.1, fun j w hj => ?_⟩
  rcases g_s2_at al i j v w hj with ⟨rfl, rfl⟩ | ⟨h1, h0, h2, h3⟩
  · exact h.2.2 _ List.mem_cons_self
  · refine h.2.2 (j, g_v E w) (List.mem_cons_of_mem _ (List.mem_filter.mpr ⟨g_lv_mem h2, ?_⟩))
    simp only [g_v_cat, Bool.and_eq_true, Bool.not_eq_true', Bool.and_eq_false_iff, beq_eq_false_iff_ne]
    refine ⟨h1, h0, ?_⟩
    by_cases q : j + 1 = i
    · exact Or.inr (fun z => h3 ⟨q, z⟩)
    · exact Or.inl q
/-- places that are forgotten -/
def g_dr : List (Option Value) → List Nat → List (Option Value)
  | al, [] => al
  | al, i :: is => g_dr (al.set i none) is
theorem g_dr_at : ∀ (is : List Nat) (al : List (Option Value)) (j : Nat) (w : Value), (g_dr al is)[j]? = some (some w) → al[j]? = some (some w) := by
  intro is
  induction is with
  | nil => intro al j w h; exact h
  | cons i is ih =>
    intro al j w h
    have h1 := ih (al.set i none) j w h
    rw [List.getElem?_set] at h1
    split at h1
    · split at h1 <;> cases h1
    · exact h1
theorem G_drop (is : List Nat) {al2 : List (Option Value)} (h2 : g_dr al is = al2) (k : G μ d mc ms post nc ns M al2 (pc) (st)) : G μ d mc ms post nc ns M al (pc) (st) := by
  intro E p l e R s m args below meth c H locs ls hC hH hL
  refine k E p l e R s m args below meth c H locs ls hC hH ⟨hL.1, hL.2.1, fun j w hj => hL.2.2 j w (g_dr_at is al j w (by rw [h2]; exact hj))⟩
theorem G_istore {i : Nat} {x : Int32} (hd : decode μ.2.1 pc = .ok (.istore i, 2)) (hi : i < μ.2.2.1) (k : G μ d mc ms post nc ns M (g_s1 al i (.int x)) (pc + 2) (st)) : G μ d mc ms post nc ns M al (pc) (.int x :: st) := by
  intro E p l e R s m args below meth c H locs ls hC hH hL
  refine lv_istore hC.1 hC.2.1 hd  (g_lv_has hL) hi rfl (fun ls1 hl1 => ?_)
  exact k E p l e R s m args below meth c H locs ls1 hC hH (g_L_s1 (v := .int x) hl1)
theorem G_istore_n {i : Fin 4} {x : Int32} (hd : decode μ.2.1 pc = .ok (.istore_n i, 1)) (hi : (i : Nat) < μ.2.2.1) (k : G μ d mc ms post nc ns M (g_s1 al (i : Nat) (.int x)) (pc + 1) (st)) : G μ d mc ms post nc ns M al (pc) (.int x :: st) := by
  intro E p l e R s m args below meth c H locs ls hC hH hL
  refine lv_istore_n hC.1 hC.2.1 hd rfl (g_lv_has hL) hi rfl (fun ls1 hl1 => ?_)
  exact k E p l e R s m args below meth c H locs ls1 hC hH (g_L_s1 (v := .int x) hl1)
theorem G_lstore {i : Nat} {x : Int64} (hd : decode μ.2.1 pc = .ok (.lstore i, 2)) (hi : i + 1 < μ.2.2.1) (k : G μ d mc ms post nc ns M (g_s2 al i (.long x)) (pc + 2) (st)) : G μ d mc ms post nc ns M al (pc) (.long x :: st) := by
  intro E p l e R s m args below meth c H locs ls hC hH hL
  refine lv_lstore hC.1 hC.2.1 hd  (g_lv_has hL) hi rfl (fun ls1 hl1 => ?_)
  exact k E p l e R s m args below meth c H locs ls1 hC hH (g_L_s2 (v := .long x) hl1)
theorem G_lstore_n {i : Fin 4} {x : Int64} (hd : decode μ.2.1 pc = .ok (.lstore_n i, 1)) (hi : (i : Nat) + 1 < μ.2.2.1) (k : G μ d mc ms post nc ns M (g_s2 al (i : Nat) (.long x)) (pc + 1) (st)) : G μ d mc ms post nc ns M al (pc) (.long x :: st) := by
  intro E p l e R s m args below meth c H locs ls hC hH hL
  refine lv_lstore_n hC.1 hC.2.1 hd rfl (g_lv_has hL) hi rfl (fun ls1 hl1 => ?_)
  exact k E p l e R s m args below meth c H locs ls1 hC hH (g_L_s2 (v := .long x) hl1)
theorem G_astore {i : Nat} {x : Nat} (hd : decode μ.2.1 pc = .ok (.astore i, 2)) (hi : i < μ.2.2.1) (k : G μ d mc ms post nc ns M (g_s1 al i (.ref x)) (pc + 2) (st)) : G μ d mc ms post nc ns M al (pc) (.ref x :: st) := by
  intro E p l e R s m args below meth c H locs ls hC hH hL
  refine lv_astore (x := g_ad E x) hC.1 hC.2.1 hd  (g_lv_has hL) hi rfl (fun ls1 hl1 => ?_)
  exact k E p l e R s m args below meth c H locs ls1 hC hH (g_L_s1 (v := .ref x) hl1)
theorem G_astore_n {i : Fin 4} {x : Nat} (hd : decode μ.2.1 pc = .ok (.astore_n i, 1)) (hi : (i : Nat) < μ.2.2.1) (k : G μ d mc ms post nc ns M (g_s1 al (i : Nat) (.ref x)) (pc + 1) (st)) : G μ d mc ms post nc ns M al (pc) (.ref x :: st) := by
  intro E p l e R s m args below meth c H locs ls hC hH hL
  refine lv_astore_n (x := g_ad E x) hC.1 hC.2.1 hd rfl (g_lv_has hL) hi rfl (fun ls1 hl1 => ?_)
  exact k E p l e R s m args below meth c H locs ls1 hC hH (g_L_s1 (v := .ref x) hl1)
theorem G_astoreN {i : Nat}  (hd : decode μ.2.1 pc = .ok (.astore i, 2)) (hi : i < μ.2.2.1) (k : G μ d mc ms post nc ns M (g_s1 al i (.null)) (pc + 2) (st)) : G μ d mc ms post nc ns M al (pc) (.null :: st) := by
  intro E p l e R s m args below meth c H locs ls hC hH hL
  refine lv_astoreN hC.1 hC.2.1 hd  (g_lv_has hL) hi rfl (fun ls1 hl1 => ?_)
  exact k E p l e R s m args below meth c H locs ls1 hC hH (g_L_s1 (v := .null) hl1)
theorem G_astore_nN {i : Fin 4}  (hd : decode μ.2.1 pc = .ok (.astore_n i, 1)) (hi : (i : Nat) < μ.2.2.1) (k : G μ d mc ms post nc ns M (g_s1 al (i : Nat) (.null)) (pc + 1) (st)) : G μ d mc ms post nc ns M al (pc) (.null :: st) := by
  intro E p l e R s m args below meth c H locs ls hC hH hL
  refine lv_astore_nN hC.1 hC.2.1 hd rfl (g_lv_has hL) hi rfl (fun ls1 hl1 => ?_)
  exact k E p l e R s m args below meth c H locs ls1 hC hH (g_L_s1 (v := .null) hl1)
theorem G_iinc {i : Nat} {n : Int} {x : Int32} (v : Int32) (hd : decode μ.2.1 pc = .ok (.iinc i n, 3)) (hl : al[i]? = some (some (.int x))) (hv : x + Int32.ofInt n = v) (hi : i < μ.2.2.1) (k : G μ d mc ms post nc ns M (g_s1 al i (.int v)) (pc + 3) (st)) : G μ d mc ms post nc ns M al (pc) (st) := by
  intro E p l e R s m args below meth c H locs ls hC hH hL
  obtain ⟨q, hq⟩ := List.getElem?_of_mem (g_lv_mem (E := E) hl)
  refine lv_iinc (x := x) (v := v) (k := q) hC.1 hC.2.1 hd (g_lv_has hL) hq hv hi rfl (fun ls1 hl1 => ?_)
  exact k E p l e R s m args below meth c H locs ls1 hC hH (g_L_s1 (v := .int v) hl1)
end GR
end
section
/-! rows of the worlds with the heap's size kept -/
section HR
variable {p : Program} {l : Launch} {e : Env} {R : Room} {s : State} {m : MethodId} {args : Array Value} {below : List Frame} {meth : Method} {c : Code} {H : Heap} {locs : List Loc} {cells slots : Nat} {Q : State → Prop}
variable {cc : ByteArray} {pc : Nat} {ls : Array Slot} {rest : List Value} {D : va_G} {cl : List vw_C} {A : Nat → Prop} {a : Nat} {tys : List (ClassId × FieldType)} {ws : va_W} {H0 : Heap}
theorem h_put (hexec : p.tables.exec = Jvm.exec) (hb : c.code = cc) {own ref C : String} {T : u_T} {N ci index : Nat} {Ts : List Cond} (hts : ∀ w ∈ Ts, w.before args s = true) (hin : ∀ w ∈ u_ws C T N, w ∈ Ts) (ty0 : Nat → FieldType) (hty : ∀ k, k < N → parseFieldDescriptor (T k).2.2.1 = some (ty0 k)) (hnm : ∀ a, a < N → ∀ b, b < N → a ≠ b → (T a).2.1 ≠ (T b).2.1) (hown : s.vm.findClass own = some m.cls) (hK : va_K D cl tys s) (hP : va_P D cl ws H) (hD : va_D A ws) (hS0 : va_S A H0 H locs) (q0 : Nat) {fs : List Value} (he : ws[q0]? = some (a, .inr (ci, fs))) (hc : cl[ci]? = some (C, T, N)) (k : Nat) (hk : k < N) (hlink : (Cond.fieldLink own index ref (T k).2.1 (T k).2.2.1).before args s = true) (hsame : ∀ x, s.fieldFound? (T k).1 (T k).2.1 (T k).2.2.1 = some x → s.fieldFound? ref (T k).2.1 (T k).2.2.1 = some x) (hfin : (T k).2.2.2 = false ∨ ((T k).2.2.2 = true ∧ meth.name = "<init>" ∧ (T k).1 = own)) {ty : FieldType} {v : Value} (hd : parseFieldDescriptor (T k).2.2.1 = some ty) (hn : narrow ty v = v) (hfit : fits ty v = true) (hl : k < fs.length)
    (hdg : decode cc pc = .ok (.putfield index, 3)) (kk : ∀ (H1 : Heap) (locs1 : List Loc), H1.size = H.size → va_P D cl (ws.set q0 (a, .inr (ci, fs.set k v))) H1 → va_S A H0 H1 locs1 → W p l e R s m args below meth c H1 locs1 cells slots Q (F0 m (pc + 3) ls rest)) : W p l e R s m args below meth c H locs cells slots Q (F0 m pc ls (v :: .ref a :: rest)) := by
  have hap := va_apart (own := own) hts hin ty0 hty hnm hK hc
  obtain ⟨r, h1, cell, q1, q2, q3, q4⟩ := hP q0 _ he
  have hr : r = (C, T, N) := Option.some.inj (h1.symm.trans hc)
  subst hr
  obtain ⟨hS, hfc, kC, hkC, hkind⟩ := hK.1 ci _ hc
  obtain ⟨cf, kf, fi, f, hi, hsl⟩ := hS k hk
  have hlay := hts _ (hin _ (u_in_lay hk))
  unfold u_lay at hlay
  have hst := (u_facts hfc hkC (u_lays hts hin hk) hi).1
  rcases hfin with hfin | ⟨hfin, hin2, hdecl⟩
  · rw [if_neg (by rw [hfin]; decide)] at hlay
    have h6 := u_store hfc hkC hkind hlay hi hd hn hfit
    refine W.putK hexec hb (f := f) ⟨hown, hlink, ⟨_, _, _, hsame _ hi⟩, hst⟩ (by rw [q2]; exact h6) q1 q3 (by rw [hsl]; exact k2_hasslot (q4 k hk)) rfl rfl hdg fun H' e1 e2 e3 => ?_
    rw [hsl] at e1 ⊢
    exact kk H' _ e2 (hP.set hD he ⟨_, hc, t_OB.to (V := updV (vp_V fs) k v) ⟨_, e1, q2, q3, t_set q4 hap hk v⟩ (fun j _ => vp_updV_set hl v j)⟩ e3) (hS0.put e2 e3 (hD.2 q0 _ he))
  · rw [if_pos hfin] at hlay
    have hcf : m.cls = cf := by
      obtain ⟨_, _, c', _, _, _, -, -, hf', -, -, -, hown2, -⟩ := Cond.laysFinal_spec hlay
      have e1 : c' = cf := by have := hi.symm.trans hf'; simp at this; exact this.1.symm
      rw [hdecl] at hown2
      rw [← e1]; exact Option.some.inj (hown.symm.trans hown2)
    have h6 := u_fits hfc hkC hkind (Or.inr hlay) hi hd hn hfit
    refine W.putFinK hexec hb hown hlink (hsame _ hi) hst hcf hin2 (by rw [q2]; exact h6) q1 q3 (by rw [hsl]; exact k2_hasslot (q4 k hk)) rfl rfl hdg fun H' e1 e2 e3 => ?_
    rw [hsl] at e1 ⊢
    exact kk H' _ e2 (hP.set hD he ⟨_, hc, t_OB.to (V := updV (vp_V fs) k v) ⟨_, e1, q2, q3, t_set q4 hap hk v⟩ (fun j _ => vp_updV_set hl v j)⟩ e3) (hS0.put e2 e3 (hD.2 q0 _ he))
theorem h_iast (hexec : p.tables.exec = Jvm.exec) (hb : c.code = cc) (hK : va_K D cl tys s) (hP : va_P D cl ws H) (hD : va_D A ws) (hS : va_S A H0 H locs) (q0 t0 : Nat) {cA : ClassId} {n : Nat} {f : Nat → Int32} (ha : ws[q0]? = some (a, .inl (cA, n, .inl f))) (ht : tys[t0]? = some (cA, .int)) {i : Int32} {x : Int32} (hin : vp_in i n) (hdg : decode cc pc = .ok (.iastore, 1))
    (kk : ∀ (H1 : Heap) (locs1 : List Loc), H1.size = H.size → va_P D cl (ws.set q0 (a, .inl (cA, n, .inl (fun j => if j = i.toNatClampNeg then x else f j)))) H1 → va_S A H0 H1 locs1 → W p l e R s m args below meth c H1 locs1 cells slots Q (F0 m (pc + 1) ls rest)) : W p l e R s m args below meth c H locs cells slots Q (F0 m pc ls (.int x :: .int i :: .ref a :: rest)) := by
  refine W.iast hexec hb (hP q0 _ ha) ((hK.2 t0 _ ht).1 n (fun j => .int (f j))) (fun q => by cases q) (by show ¬ (i < 0 ∨ (arrV _ _ _).slots.size ≤ _); rw [arrV_size]; exact hin) rfl rfl hdg fun H1 e z oq => ?_
  refine kk H1 _ z (hP.set hD ha ?_ oq) (hS.put z oq (hD.2 q0 _ ha))
  show H1[a]? = some (vp_cell _ _)
  rw [e]
  rw [vp_cell_i, vp_cell_i, arrV_store]
  congr 2
  funext q
  by_cases hq : q = i.toNatClampNeg
  · subst hq
    simp [updV]
  · simp [updV, hq]
theorem h_zast (hexec : p.tables.exec = Jvm.exec) (hb : c.code = cc) (hK : va_K D cl tys s) (hP : va_P D cl ws H) (hD : va_D A ws) (hS : va_S A H0 H locs) (q0 t0 : Nat) {cA : ClassId} {n : Nat} {f : Nat → Int32} (ha : ws[q0]? = some (a, .inl (cA, n, .inl f))) (ht : tys[t0]? = some (cA, .boolean)) {i : Int32} {x : Int32} (hin : vp_in i n) (hdg : decode cc pc = .ok (.bastore, 1))
    (kk : ∀ (H1 : Heap) (locs1 : List Loc), H1.size = H.size → va_P D cl (ws.set q0 (a, .inl (cA, n, .inl (fun j => if j = i.toNatClampNeg then x &&& 1 else f j)))) H1 → va_S A H0 H1 locs1 → W p l e R s m args below meth c H1 locs1 cells slots Q (F0 m (pc + 1) ls rest)) : W p l e R s m args below meth c H locs cells slots Q (F0 m pc ls (.int x :: .int i :: .ref a :: rest)) := by
  refine W.zast hexec hb (hP q0 _ ha) ((hK.2 t0 _ ht).1 n (fun j => .int (f j))) (fun q => by cases q) (by show ¬ (i < 0 ∨ (arrV _ _ _).slots.size ≤ _); rw [arrV_size]; exact hin) rfl rfl hdg fun H1 e z oq => ?_
  refine kk H1 _ z (hP.set hD ha ?_ oq) (hS.put z oq (hD.2 q0 _ ha))
  show H1[a]? = some (vp_cell _ _)
  rw [e]
  rw [vp_cell_i, vp_cell_i, arrV_store]
  congr 2
  funext q
  by_cases hq : q = i.toNatClampNeg
  · subst hq
    simp [updV, narrow]
    try rfl
  · simp [updV, hq]
theorem h_last (hexec : p.tables.exec = Jvm.exec) (hb : c.code = cc) (hK : va_K D cl tys s) (hP : va_P D cl ws H) (hD : va_D A ws) (hS : va_S A H0 H locs) (q0 t0 : Nat) {cA : ClassId} {n : Nat} {f : Nat → Int64} (ha : ws[q0]? = some (a, .inl (cA, n, .inr (.inl f)))) (ht : tys[t0]? = some (cA, .long)) {i : Int32} {x : Int64} (hin : vp_in i n) (hdg : decode cc pc = .ok (.lastore, 1))
    (kk : ∀ (H1 : Heap) (locs1 : List Loc), H1.size = H.size → va_P D cl (ws.set q0 (a, .inl (cA, n, .inr (.inl (fun j => if j = i.toNatClampNeg then x else f j))))) H1 → va_S A H0 H1 locs1 → W p l e R s m args below meth c H1 locs1 cells slots Q (F0 m (pc + 1) ls rest)) : W p l e R s m args below meth c H locs cells slots Q (F0 m pc ls (.long x :: .int i :: .ref a :: rest)) := by
  refine W.last hexec hb (hP q0 _ ha) ((hK.2 t0 _ ht).1 n (fun j => .long (f j))) (fun q => by cases q) (by show ¬ (i < 0 ∨ (arrV _ _ _).slots.size ≤ _); rw [arrV_size]; exact hin) rfl rfl hdg fun H1 e z oq => ?_
  refine kk H1 _ z (hP.set hD ha ?_ oq) (hS.put z oq (hD.2 q0 _ ha))
  show H1[a]? = some (vp_cell _ _)
  rw [e]
  rw [vp_cell_l, vp_cell_l, arrV_store]
  congr 2
  funext q
  by_cases hq : q = i.toNatClampNeg
  · subst hq
    simp [updV]
  · simp [updV, hq]
theorem h_astq (hexec : p.tables.exec = Jvm.exec) (hb : c.code = cc) (hK : va_K D cl tys s) (hP : va_P D cl ws H) (hD : va_D A ws) (hS : va_S A H0 H locs) (q0 t0 qk ci : Nat) {cA : ClassId} {r : vw_C} {n v : Nat} {vs : List Value} {f : Nat → Option Nat} (ha : ws[q0]? = some (a, .inl (cA, n, .inr (.inr (.inr (.inr f)))))) (ht : tys[t0]? = some (cA, .object r.1)) (hv : ws[qk]? = some (v, .inr (ci, vs))) (hc : cl[ci]? = some r) {i : Int32} (hin : vp_in i n) (hdg : decode cc pc = .ok (.aastore, 1))
    (kk : ∀ (H1 : Heap) (locs1 : List Loc), H1.size = H.size → va_P D cl (ws.set q0 (a, .inl (cA, n, .inr (.inr (.inr (.inr (fun j => if j = i.toNatClampNeg then some v else f j))))))) H1 → va_S A H0 H1 locs1 → W p l e R s m args below meth c H1 locs1 cells slots Q (F0 m (pc + 1) ls rest)) : W p l e R s m args below meth c H locs cells slots Q (F0 m pc ls (.ref v :: .int i :: .ref a :: rest)) := by
  have hlt : i.toNatClampNeg < n := Nat.not_le.mp fun q => hin (Or.inr q)
  have h0 : ¬ i < 0 := fun q => hin (Or.inl q)
  obtain ⟨r', hr', cellV, g1, g2, g3, -⟩ := hP qk _ hv
  have hcls := (hK.1 ci r hc).2
  obtain ⟨kA, comp, k1, k2, k3, -⟩ := (hK.2 t0 _ ht).2
  have hcomp : comp = D.1 ci := Option.some.inj (k3.symm.trans hcls.1)
  subst hcomp
  obtain ⟨kC, hkC, -⟩ := hcls.2
  refine W.aast hexec hb (hP q0 _ ha) (fun q h => by cases h) (fun h => by cases h) k1 k2 rfl hkC ⟨h0, by show _ < (arrV _ _ _).slots.size; rw [arrV_size]; exact hlt⟩ g1 (fun q h => by rw [g3] at h; cases h) (by rw [g2]; exact hkC) (by rw [g2]; exact va_assign hcls) rfl rfl hdg fun H1 e z oq => ?_
  refine kk H1 _ z (hP.set hD ha ?_ oq) (hS.put z oq (hD.2 q0 _ ha))
  show H1[a]? = some (vp_cell _ _)
  rw [e]
  rw [vp_cell_q, vp_cell_q, arrV_store]
  congr 2
  funext q
  by_cases hq : q = i.toNatClampNeg
  · subst hq
    simp [updV, va_rf]
  · simp [updV, hq]
end HR
/-! memory rules of G -/
abbrev gk (K : Nat → gK) (n a : Nat) (kd : gK) : Prop := K a = kd ∧ a < n
def g_ik (ty : FieldType) : Nat := match ty with
  | .long => 1
  | .object _ => 2
  | .array _ => 2
  | _ => 0
theorem g_fv_i {E : gE} {M : gMem} {a k : Nat} {ty : FieldType} (h : g_ik ty = 0) : g_fv E M a ty k = .int (M.2.1 a k) := by
  cases ty <;> first | rfl | (simp [g_ik] at h)
theorem g_fv_l {E : gE} {M : gMem} {a k : Nat} {ty : FieldType} (h : g_ik ty = 1) : g_fv E M a ty k = .long (M.2.2.1 a k) := by
  cases ty <;> first | rfl | (simp [g_ik] at h)
theorem g_fv_r {E : gE} {M : gMem} {a k : Nat} {ty : FieldType} (h : g_ik ty = 2) : g_fv E M a ty k = va_rf ((M.2.2.2.1 a k).map (g_ad E)) := by
  cases ty <;> first | rfl | (simp [g_ik] at h)
theorem g_fs_at {E : gE} {M : gMem} {a ci k : Nat} (h : k < g_N ci) : (g_fs E M a ci)[k]? = some (g_fv E M a (g_ty ci k) k) := by
  unfold g_fs
  rw [List.getElem?_map, List.getElem?_range h]
  rfl
theorem g_fs_len (E : gE) (M : gMem) (a ci : Nat) : (g_fs E M a ci).length = g_N ci := by simp [g_fs]
theorem g_fs_put {E : gE} {M M' : gMem} {a ci k : Nat} {v : Value} (hk : g_fv E M' a (g_ty ci k) k = v) (ho : ∀ j, j ≠ k → g_fv E M' a (g_ty ci j) j = g_fv E M a (g_ty ci j) j) : g_fs E M' a ci = (g_fs E M a ci).set k v := by
  apply List.ext_getElem?
  intro j
  rw [List.getElem?_set]
  by_cases hj : j < g_N ci
  · rw [g_fs_at hj, g_fs_at hj]
    by_cases e : k = j
    · subst e
      rw [if_pos rfl, if_pos (by rw [g_fs_len]; exact hj), hk]
    · rw [if_neg e, ho j (fun q => e q.symm)]
  · have h1 : (g_fs E M' a ci)[j]? = none := List.getElem?_eq_none (by rw [g_fs_len]; omega)
    have h2 : (g_fs E M a ci)[j]? = none := List.getElem?_eq_none (by rw [g_fs_len]; omega)
    rw [h1, h2]
    by_cases e : k = j
    · subst e
      rw [if_pos rfl, if_neg (by rw [g_fs_len]; exact hj)]
    · rw [if_neg e]
theorem g_cell_congr {E : gE} {M M' : gMem} {b : Nat} (h1 : M.1 b = M'.1 b) (h2 : M.2.1 b = M'.2.1 b) (h3 : M.2.2.1 b = M'.2.2.1 b) (h4 : M.2.2.2.1 b = M'.2.2.2.1 b) : g_cell E M b = g_cell E M' b := by
  have hf : ∀ ci, g_fs E M b ci = g_fs E M' b ci := by
    intro ci
    unfold g_fs
    apply List.map_congr_left
    intro k _
    unfold g_fv
    rw [h2, h3, h4]
  have ha : ∀ t, g_arr E M b t = g_arr E M' b t := by
    intro t
    unfold g_arr
    rw [h2, h3, h4]
  unfold g_cell
  rw [h1]
  cases M'.1 b with
  | inl ci => simp only [hf]
  | inr q => simp only [ha]
theorem g_cell_o {E : gE} {M : gMem} {a ci : Nat} (h : M.1 a = .inl ci) : g_cell E M a = .inr (ci, g_fs E M a ci) := by
  unfold g_cell
  rw [h]
theorem g_cell_a {E : gE} {M : gMem} {a t n : Nat} (h : M.1 a = .inr (t, n)) : g_cell E M a = .inl (E.2.1 t, n, g_arr E M a t) := by
  unfold g_cell
  rw [h]
def g_fl (own : String) (idx ci k : Nat) : Prop := ci < 11 ∧ k < g_N ci ∧ Cond.fieldLink own idx (g_T ci k).1 (g_T ci k).2.1 (g_T ci k).2.2.1 ∈ g_tb
def g_ok (ty : FieldType) (v : Value) : Prop := narrow ty v = v ∧ fits ty v = true
section GM
variable {μ : gMeth} {d mc ms : Nat} {post : gPost} {nc ns : Nat} {K : Nat → gK} {I : Nat → Nat → Int32} {J : Nat → Nat → Int64} {P : Nat → Nat → Option Nat} {n : Nat} {al : List (Option Value)} {pc : Nat} {st : List Value}
theorem G_getv {a ci k idx : Nat} {v : Value} (hl : g_fl μ.1.cls idx ci k) (hd : decode μ.2.1 pc = .ok (.getfield idx, 3)) (hk : gk K n a (.inl ci)) (hv : ∀ E : gE, g_fv E (K, I, J, P, n) a (g_ty ci k) k = g_v E v) (kk : G μ d mc ms post nc ns (K, I, J, P, n) al (pc + 3) (v :: st)) : G μ d mc ms post nc ns (K, I, J, P, n) al pc (.ref a :: st) := by
  intro E p l e R s m args below meth c H locs ls hC hH hL
  obtain ⟨h1, h2, h3⟩ := hl
  have hw := g_w_at (E := E) (M := (K, I, J, P, n)) hk.2
  rw [g_cell_o hk.1] at hw
  have hts := hC.2.2.2.2.2.1
  exact va_get (C := g_R ci) (T := g_T ci) (N := g_N ci) hC.1 hC.2.1 hts (g_inT ci h1) hC.2.2.2.2.1 hC.2.2.2.2.2.2.2.2.2.1 hH.1 a hw (g_cl ci h1) k h2 (hts _ h3) (fun _ h => h) (by rw [g_fs_at h2, hv E]) hd (kk E p l e R s m args below meth c H locs ls hC hH hL)
theorem G_geti {a ci k idx : Nat} (hl : g_fl μ.1.cls idx ci k) (hd : decode μ.2.1 pc = .ok (.getfield idx, 3)) (hk : gk K n a (.inl ci)) (ht : g_ik (g_ty ci k) = 0) (kk : G μ d mc ms post nc ns (K, I, J, P, n) al (pc + 3) (.int (I a k) :: st)) : G μ d mc ms post nc ns (K, I, J, P, n) al pc (.ref a :: st) :=
  G_getv hl hd hk (fun _ => g_fv_i ht) kk
theorem G_getl {a ci k idx : Nat} (hl : g_fl μ.1.cls idx ci k) (hd : decode μ.2.1 pc = .ok (.getfield idx, 3)) (hk : gk K n a (.inl ci)) (ht : g_ik (g_ty ci k) = 1) (kk : G μ d mc ms post nc ns (K, I, J, P, n) al (pc + 3) (.long (J a k) :: st)) : G μ d mc ms post nc ns (K, I, J, P, n) al pc (.ref a :: st) :=
  G_getv hl hd hk (fun _ => g_fv_l ht) kk
theorem G_getr {a ci k idx b : Nat} (hl : g_fl μ.1.cls idx ci k) (hd : decode μ.2.1 pc = .ok (.getfield idx, 3)) (hk : gk K n a (.inl ci)) (ht : g_ik (g_ty ci k) = 2) (hp : P a k = some b) (kk : G μ d mc ms post nc ns (K, I, J, P, n) al (pc + 3) (.ref b :: st)) : G μ d mc ms post nc ns (K, I, J, P, n) al pc (.ref a :: st) :=
  G_getv hl hd hk (fun E => by rw [g_fv_r ht]; show va_rf ((P a k).map (g_ad E)) = _; rw [hp]; rfl) kk
theorem G_putv {a ci k idx : Nat} {v : Value} {I' : Nat → Nat → Int32} {J' : Nat → Nat → Int64} {P' : Nat → Nat → Option Nat} (hl : g_fl μ.1.cls idx ci k) (hd : decode μ.2.1 pc = .ok (.putfield idx, 3)) (hk : gk K n a (.inl ci)) (hf : (g_T ci k).2.2.2 = false ∨ ((g_T ci k).2.2.2 = true ∧ μ.1.name = "<init>" ∧ (g_T ci k).1 = μ.1.cls)) (hok : ∀ E : gE, g_ok (g_ty ci k) (g_v E v))
    (hv : ∀ E : gE, g_fv E (K, I', J', P', n) a (g_ty ci k) k = g_v E v) (ho : ∀ E : gE, ∀ j, j ≠ k → g_fv E (K, I', J', P', n) a (g_ty ci j) j = g_fv E (K, I, J, P, n) a (g_ty ci j) j) (hI : ∀ b, b ≠ a → I' b = I b) (hJ : ∀ b, b ≠ a → J' b = J b) (hP' : ∀ b, b ≠ a → P' b = P b)
    (kk : G μ d mc ms post nc ns (K, I', J', P', n) al (pc + 3) st) : G μ d mc ms post nc ns (K, I, J, P, n) al pc (v :: .ref a :: st) := by
  intro E p l e R s m args below meth c H locs ls hC hH hL
  obtain ⟨h1, h2, h3⟩ := hl
  have hw := g_w_at (E := E) (M := (K, I, J, P, n)) hk.2
  rw [g_cell_o hk.1] at hw
  have hts := hC.2.2.2.2.2.1
  refine h_put (C := g_R ci) (T := g_T ci) (N := g_N ci) hC.1 hC.2.1 hts (g_inT ci h1) (g_ty ci) (g_tyok ci h1) (g_nm ci h1) hC.2.2.2.2.1 hC.2.2.2.2.2.2.2.2.2.1 hH.1 (g_w_D hH.2.2.1) hH.2.2.2.1 a hw (g_cl ci h1) k h2 (hts _ h3) (fun _ h => h) (hf.imp id (fun q => ⟨q.1, by rw [hC.2.2.2.2.2.2.2.1]; exact q.2.1, q.2.2⟩)) (g_tyok ci h1 k h2) (hok E).1 (hok E).2 (by rw [g_fs_len]; exact h2) hd (fun H1 locs1 hz hP1 hS1 => ?_)
  have he : g_w E (K, I', J', P', n) = (g_w E (K, I, J, P, n)).set a (g_ad E a, .inr (ci, (g_fs E (K, I, J, P, n) a ci).set k (g_v E v))) := by
    refine (g_w_set (M := (K, I, J, P, n)) (M' := (K, I', J', P', n)) rfl ?_ (fun b hb => g_cell_congr (M := (K, I', J', P', n)) (M' := (K, I, J, P, n)) rfl (hI b hb) (hJ b hb) (hP' b hb))).symm
    rw [g_cell_o (M := (K, I', J', P', n)) hk.1, g_fs_put (M := (K, I, J, P, n)) (hv E) (ho E)]
  exact kk E p l e R s m args below meth c H1 locs1 ls hC ⟨by rw [he]; exact hP1, by rw [hz]; exact hH.2.1, hH.2.2.1, hS1, hH.2.2.2.2⟩ hL
theorem g_fv_u {E : gE} {K : Nat → gK} {I I' : Nat → Nat → Int32} {J J' : Nat → Nat → Int64} {P P' : Nat → Nat → Option Nat} {n a j : Nat} {ty : FieldType} (h1 : I' a j = I a j) (h2 : J' a j = J a j) (h3 : P' a j = P a j) : g_fv E (K, I', J', P', n) a ty j = g_fv E (K, I, J, P, n) a ty j := by
  unfold g_fv
  show (match ty with | .long => Value.long (J' a j) | .object _ => va_rf ((P' a j).map (g_ad E)) | .array _ => va_rf ((P' a j).map (g_ad E)) | _ => Value.int (I' a j)) = _
  rw [h1, h2, h3]
  rfl
theorem g_u_at {α : Type} (f : Nat → Nat → α) (a k : Nat) (x : α) : g_u f a k x a k = x := by simp [g_u]
theorem g_u_off {α : Type} (f : Nat → Nat → α) (a : Nat) {k j : Nat} (x : α) (h : j ≠ k) : g_u f a k x a j = f a j := by simp [g_u, h]
theorem G_puti {a ci k idx : Nat} {x : Int32} (hl : g_fl μ.1.cls idx ci k) (hd : decode μ.2.1 pc = .ok (.putfield idx, 3)) (hk : gk K n a (.inl ci)) (ht : g_ik (g_ty ci k) = 0) (hf : (g_T ci k).2.2.2 = false ∨ ((g_T ci k).2.2.2 = true ∧ μ.1.name = "<init>" ∧ (g_T ci k).1 = μ.1.cls)) (hok : g_ok (g_ty ci k) (.int x))
    (kk : G μ d mc ms post nc ns (K, g_u I a k x, J, P, n) al (pc + 3) st) : G μ d mc ms post nc ns (K, I, J, P, n) al pc (.int x :: .ref a :: st) :=
  G_putv (v := .int x) hl hd hk hf (fun _ => hok) (fun E => by rw [g_fv_i ht]; exact congrArg Value.int (g_u_at I a k x)) (fun E j hj => g_fv_u (g_u_off I a x hj) rfl rfl) (fun b hb => g_u_ne I k x hb) (fun _ _ => rfl) (fun _ _ => rfl) kk
theorem G_putl {a ci k idx : Nat} {x : Int64} (hl : g_fl μ.1.cls idx ci k) (hd : decode μ.2.1 pc = .ok (.putfield idx, 3)) (hk : gk K n a (.inl ci)) (ht : g_ik (g_ty ci k) = 1) (hf : (g_T ci k).2.2.2 = false ∨ ((g_T ci k).2.2.2 = true ∧ μ.1.name = "<init>" ∧ (g_T ci k).1 = μ.1.cls)) (hok : g_ok (g_ty ci k) (.long x))
    (kk : G μ d mc ms post nc ns (K, I, g_u J a k x, P, n) al (pc + 3) st) : G μ d mc ms post nc ns (K, I, J, P, n) al pc (.long x :: .ref a :: st) :=
  G_putv (v := .long x) hl hd hk hf (fun _ => hok) (fun E => by rw [g_fv_l ht]; exact congrArg Value.long (g_u_at J a k x)) (fun E j hj => g_fv_u rfl (g_u_off J a x hj) rfl) (fun _ _ => rfl) (fun b hb => g_u_ne J k x hb) (fun _ _ => rfl) kk
theorem G_putr {a ci k idx b : Nat} (hl : g_fl μ.1.cls idx ci k) (hd : decode μ.2.1 pc = .ok (.putfield idx, 3)) (hk : gk K n a (.inl ci)) (ht : g_ik (g_ty ci k) = 2) (hf : (g_T ci k).2.2.2 = false ∨ ((g_T ci k).2.2.2 = true ∧ μ.1.name = "<init>" ∧ (g_T ci k).1 = μ.1.cls)) (hok : ∀ q : Nat, g_ok (g_ty ci k) (.ref q))
    (kk : G μ d mc ms post nc ns (K, I, J, g_u P a k (some b), n) al (pc + 3) st) : G μ d mc ms post nc ns (K, I, J, P, n) al pc (.ref b :: .ref a :: st) :=
  G_putv (v := .ref b) hl hd hk hf (fun _ => hok _) (fun E => by rw [g_fv_r ht]; show va_rf ((g_u P a k (some b) a k).map (g_ad E)) = _; rw [g_u_at]; rfl) (fun E j hj => g_fv_u rfl rfl (g_u_off P a _ hj)) (fun _ _ => rfl) (fun _ _ => rfl) (fun c hc => g_u_ne P k _ hc) kk
end GM
section GA
variable {μ : gMeth} {d mc ms : Nat} {post : gPost} {nc ns : Nat} {K : Nat → gK} {I : Nat → Nat → Int32} {J : Nat → Nat → Int64} {P : Nat → Nat → Option Nat} {n : Nat} {al : List (Option Value)} {pc : Nat} {st : List Value}
theorem G_iald {a N : Nat} {i : Int32} (hd : decode μ.2.1 pc = .ok (.iaload, 1)) (hk : gk K n a (.inr (0, N))) (hin : vp_in i N) (kk : G μ d mc ms post nc ns (K, I, J, P, n) al (pc + 1) (.int (I a i.toNatClampNeg) :: st)) : G μ d mc ms post nc ns (K, I, J, P, n) al pc (.int i :: .ref a :: st) := by
  intro E p l e R s m args below meth c H locs ls hC hH hL
  have hw := g_w_at (E := E) (M := (K, I, J, P, n)) hk.2
  rw [g_cell_a hk.1] at hw
  exact va_iald hC.1 hC.2.1 hC.2.2.2.2.2.2.2.2.2.1 hH.1 a 0 hw (g_tys_at E (by decide)) hin hd (kk E p l e R s m args below meth c H locs ls hC hH hL)
theorem G_zald {a N : Nat} {i : Int32} (hd : decode μ.2.1 pc = .ok (.baload, 1)) (hk : gk K n a (.inr (1, N))) (hin : vp_in i N) (kk : G μ d mc ms post nc ns (K, I, J, P, n) al (pc + 1) (.int (I a i.toNatClampNeg) :: st)) : G μ d mc ms post nc ns (K, I, J, P, n) al pc (.int i :: .ref a :: st) := by
  intro E p l e R s m args below meth c H locs ls hC hH hL
  have hw := g_w_at (E := E) (M := (K, I, J, P, n)) hk.2
  rw [g_cell_a hk.1] at hw
  exact va_zald hC.1 hC.2.1 hC.2.2.2.2.2.2.2.2.2.1 hH.1 a 1 hw (g_tys_at E (by decide)) hin hd (kk E p l e R s m args below meth c H locs ls hC hH hL)
theorem G_lald {a N : Nat} {i : Int32} (hd : decode μ.2.1 pc = .ok (.laload, 1)) (hk : gk K n a (.inr (2, N))) (hin : vp_in i N) (kk : G μ d mc ms post nc ns (K, I, J, P, n) al (pc + 1) (.long (J a i.toNatClampNeg) :: st)) : G μ d mc ms post nc ns (K, I, J, P, n) al pc (.int i :: .ref a :: st) := by
  intro E p l e R s m args below meth c H locs ls hC hH hL
  have hw := g_w_at (E := E) (M := (K, I, J, P, n)) hk.2
  rw [g_cell_a hk.1] at hw
  exact va_lald hC.1 hC.2.1 hC.2.2.2.2.2.2.2.2.2.1 hH.1 a 2 hw (g_tys_at E (by decide)) hin hd (kk E p l e R s m args below meth c H locs ls hC hH hL)
theorem g_arr_q {E : gE} {M : gMem} {a t : Nat} (h1 : 3 ≤ t) (h2 : t < 7) : g_arr E M a t = .inr (.inr (.inr (.inr (fun j => (M.2.2.2.1 a j).map (g_ad E))))) := by
  match t, h1, h2 with
  | 3, _, _ => rfl
  | 4, _, _ => rfl
  | 5, _, _ => rfl
  | 6, _, _ => rfl
theorem g_el_ref {t : Nat} (h1 : 3 ≤ t) (h2 : t < 7) : (g_el t).isReference = true := by
  match t, h1, h2 with
  | 3, _, _ => rfl
  | 4, _, _ => rfl
  | 5, _, _ => rfl
  | 6, _, _ => rfl
theorem G_aald {a t N b : Nat} {i : Int32} (hd : decode μ.2.1 pc = .ok (.aaload, 1)) (hk : gk K n a (.inr (t, N))) (h1 : 3 ≤ t) (h2 : t < 7) (hin : vp_in i N) (hp : P a i.toNatClampNeg = some b) (kk : G μ d mc ms post nc ns (K, I, J, P, n) al (pc + 1) (.ref b :: st)) : G μ d mc ms post nc ns (K, I, J, P, n) al pc (.int i :: .ref a :: st) := by
  intro E p l e R s m args below meth c H locs ls hC hH hL
  have hw := g_w_at (E := E) (M := (K, I, J, P, n)) hk.2
  rw [g_cell_a hk.1, g_arr_q h1 h2] at hw
  have hlt : i.toNatClampNeg < N := Nat.not_le.mp fun q => hin (Or.inr q)
  have hKt := (hC.2.2.2.2.2.2.2.2.2.1.2 t _ (g_tys_at E h2)).1
  refine W.aald (v := .ref (g_ad E b)) (ty := g_el t) hC.1 hC.2.1 (hH.1 a _ hw) (hKt N (fun j => va_rf ((P a j).map (g_ad E)))) (g_el_ref h1 h2) (fun q => by cases q) (by show ¬ (i < 0 ∨ (arrV _ _ _).slots.size ≤ _); rw [arrV_size]; exact hin) ?_ rfl rfl hd (kk E p l e R s m args below meth c H locs ls hC hH hL)
  show (arrV (E.2.1 t) N (fun j => va_rf ((P a j).map (g_ad E)))).slots[_]? = _
  rw [arrV_read _ _ hlt, hp]
  rfl
theorem G_iast {a N : Nat} {i x : Int32} (hd : decode μ.2.1 pc = .ok (.iastore, 1)) (hk : gk K n a (.inr (0, N))) (hin : vp_in i N) (kk : G μ d mc ms post nc ns (K, g_u I a i.toNatClampNeg x, J, P, n) al (pc + 1) st) : G μ d mc ms post nc ns (K, I, J, P, n) al pc (.int x :: .int i :: .ref a :: st) := by
  intro E p l e R s m args below meth c H locs ls hC hH hL
  have hw := g_w_at (E := E) (M := (K, I, J, P, n)) hk.2
  rw [g_cell_a hk.1] at hw
  refine h_iast hC.1 hC.2.1 hC.2.2.2.2.2.2.2.2.2.1 hH.1 (g_w_D hH.2.2.1) hH.2.2.2.1 a 0 hw (g_tys_at E (by decide)) hin hd (fun H1 locs1 hz hP1 hS1 => ?_)
  have he : g_w E (K, g_u I a i.toNatClampNeg x, J, P, n) = (g_w E (K, I, J, P, n)).set a (g_ad E a, .inl (E.2.1 0, N, .inl (fun j => if j = i.toNatClampNeg then x else I a j))) := by
    refine (g_w_set (M := (K, I, J, P, n)) (M' := (K, g_u I a i.toNatClampNeg x, J, P, n)) rfl ?_ (fun b hb => g_cell_congr (M := (K, g_u I a i.toNatClampNeg x, J, P, n)) (M' := (K, I, J, P, n)) rfl (g_u_ne I _ x hb) rfl rfl)).symm
    rw [g_cell_a (M := (K, g_u I a i.toNatClampNeg x, J, P, n)) hk.1]
    show Sum.inl (E.2.1 0, N, Sum.inl (g_u I a i.toNatClampNeg x a)) = _
    rw [g_u_self]
  exact kk E p l e R s m args below meth c H1 locs1 ls hC ⟨by rw [he]; exact hP1, by rw [hz]; exact hH.2.1, hH.2.2.1, hS1, hH.2.2.2.2⟩ hL
theorem G_zast {a N : Nat} {i x : Int32} (hd : decode μ.2.1 pc = .ok (.bastore, 1)) (hk : gk K n a (.inr (1, N))) (hin : vp_in i N) (kk : G μ d mc ms post nc ns (K, g_u I a i.toNatClampNeg (x &&& 1), J, P, n) al (pc + 1) st) : G μ d mc ms post nc ns (K, I, J, P, n) al pc (.int x :: .int i :: .ref a :: st) := by
  intro E p l e R s m args below meth c H locs ls hC hH hL
  have hw := g_w_at (E := E) (M := (K, I, J, P, n)) hk.2
  rw [g_cell_a hk.1] at hw
  refine h_zast hC.1 hC.2.1 hC.2.2.2.2.2.2.2.2.2.1 hH.1 (g_w_D hH.2.2.1) hH.2.2.2.1 a 1 hw (g_tys_at E (by decide)) hin hd (fun H1 locs1 hz hP1 hS1 => ?_)
  have he : g_w E (K, g_u I a i.toNatClampNeg (x &&& 1), J, P, n) = (g_w E (K, I, J, P, n)).set a (g_ad E a, .inl (E.2.1 1, N, .inl (fun j => if j = i.toNatClampNeg then x &&& 1 else I a j))) := by
    refine (g_w_set (M := (K, I, J, P, n)) (M' := (K, g_u I a i.toNatClampNeg (x &&& 1), J, P, n)) rfl ?_ (fun b hb => g_cell_congr (M := (K, g_u I a i.toNatClampNeg (x &&& 1), J, P, n)) (M' := (K, I, J, P, n)) rfl (g_u_ne I _ _ hb) rfl rfl)).symm
    rw [g_cell_a (M := (K, g_u I a i.toNatClampNeg (x &&& 1), J, P, n)) hk.1]
    show Sum.inl (E.2.1 1, N, Sum.inl (g_u I a i.toNatClampNeg (x &&& 1) a)) = _
    rw [g_u_self]
  exact kk E p l e R s m args below meth c H1 locs1 ls hC ⟨by rw [he]; exact hP1, by rw [hz]; exact hH.2.1, hH.2.2.1, hS1, hH.2.2.2.2⟩ hL
theorem G_last {a N : Nat} {i : Int32} {x : Int64} (hd : decode μ.2.1 pc = .ok (.lastore, 1)) (hk : gk K n a (.inr (2, N))) (hin : vp_in i N) (kk : G μ d mc ms post nc ns (K, I, g_u J a i.toNatClampNeg x, P, n) al (pc + 1) st) : G μ d mc ms post nc ns (K, I, J, P, n) al pc (.long x :: .int i :: .ref a :: st) := by
  intro E p l e R s m args below meth c H locs ls hC hH hL
  have hw := g_w_at (E := E) (M := (K, I, J, P, n)) hk.2
  rw [g_cell_a hk.1] at hw
  refine h_last hC.1 hC.2.1 hC.2.2.2.2.2.2.2.2.2.1 hH.1 (g_w_D hH.2.2.1) hH.2.2.2.1 a 2 hw (g_tys_at E (by decide)) hin hd (fun H1 locs1 hz hP1 hS1 => ?_)
  have he : g_w E (K, I, g_u J a i.toNatClampNeg x, P, n) = (g_w E (K, I, J, P, n)).set a (g_ad E a, .inl (E.2.1 2, N, .inr (.inl (fun j => if j = i.toNatClampNeg then x else J a j)))) := by
    refine (g_w_set (M := (K, I, J, P, n)) (M' := (K, I, g_u J a i.toNatClampNeg x, P, n)) rfl ?_ (fun b hb => g_cell_congr (M := (K, I, g_u J a i.toNatClampNeg x, P, n)) (M' := (K, I, J, P, n)) rfl rfl (g_u_ne J _ x hb) rfl)).symm
    rw [g_cell_a (M := (K, I, g_u J a i.toNatClampNeg x, P, n)) hk.1]
    show Sum.inl (E.2.1 2, N, Sum.inr (Sum.inl (g_u J a i.toNatClampNeg x a))) = _
    rw [g_u_self]
  exact kk E p l e R s m args below meth c H1 locs1 ls hC ⟨by rw [he]; exact hP1, by rw [hz]; exact hH.2.1, hH.2.2.1, hS1, hH.2.2.2.2⟩ hL
theorem G_aast {a t N b ci : Nat} {i : Int32} (hd : decode μ.2.1 pc = .ok (.aastore, 1)) (hk : gk K n a (.inr (t, N))) (h1 : 3 ≤ t) (h2 : t < 7) (hci : ci < 11) (hel : g_el t = .object (g_R ci)) (hb : gk K n b (.inl ci)) (hin : vp_in i N) (kk : G μ d mc ms post nc ns (K, I, J, g_u P a i.toNatClampNeg (some b), n) al (pc + 1) st) : G μ d mc ms post nc ns (K, I, J, P, n) al pc (.ref b :: .int i :: .ref a :: st) := by
  intro E p l e R s m args below meth c H locs ls hC hH hL
  have hw := g_w_at (E := E) (M := (K, I, J, P, n)) hk.2
  rw [g_cell_a hk.1, g_arr_q h1 h2] at hw
  have hwb := g_w_at (E := E) (M := (K, I, J, P, n)) hb.2
  rw [g_cell_o hb.1] at hwb
  refine h_astq (r := (g_R ci, g_T ci, g_N ci)) hC.1 hC.2.1 hC.2.2.2.2.2.2.2.2.2.1 hH.1 (g_w_D hH.2.2.1) hH.2.2.2.1 a t b ci hw (by rw [g_tys_at E h2, hel]) hwb (g_cl ci hci) hin hd (fun H1 locs1 hz hP1 hS1 => ?_)
  have he : g_w E (K, I, J, g_u P a i.toNatClampNeg (some b), n) = (g_w E (K, I, J, P, n)).set a (g_ad E a, .inl (E.2.1 t, N, .inr (.inr (.inr (.inr (fun j => if j = i.toNatClampNeg then some (g_ad E b) else (P a j).map (g_ad E))))))) := by
    refine (g_w_set (M := (K, I, J, P, n)) (M' := (K, I, J, g_u P a i.toNatClampNeg (some b), n)) rfl ?_ (fun b2 hb2 => g_cell_congr (M := (K, I, J, g_u P a i.toNatClampNeg (some b), n)) (M' := (K, I, J, P, n)) rfl rfl rfl (g_u_ne P _ _ hb2))).symm
    rw [g_cell_a (M := (K, I, J, g_u P a i.toNatClampNeg (some b), n)) hk.1, g_arr_q h1 h2]
    show Sum.inl (E.2.1 t, N, Sum.inr (Sum.inr (Sum.inr (Sum.inr (fun j => (g_u P a i.toNatClampNeg (some b) a j).map (g_ad E)))))) = _
    rw [g_u_self]
    congr 7
    funext j
    by_cases hj : j = i.toNatClampNeg
    · simp [hj]
    · simp [hj]
  exact kk E p l e R s m args below meth c H1 locs1 ls hC ⟨by rw [he]; exact hP1, by rw [hz]; exact hH.2.1, hH.2.2.1, hS1, hH.2.2.2.2⟩ hL
end GA
/-! returns -/
section GT
variable {μ : gMeth} {d mc ms : Nat} {post : gPost} {nc ns : Nat} {M : gMem} {al : List (Option Value)} {pc : Nat}
theorem g_Q_of {E : gE} {s : State} {H : Heap} {locs : List Loc} {args : Array Value} {r : Option Value} (hH : g_H E M s H locs) (hp : post r M) : ∀ t : State, t.heap = H → s.WarmedH t.vm → g_Q E post args s (.returned (r.map (g_v E))) t := by
  intro t ht _
  refine ⟨⟨r, M, rfl, hp, by rw [ht]; exact hH.1, by rw [ht]; exact hH.2.1, hH.2.2.1⟩, ?_, ?_⟩
  · rw [ht]
    exact hH.2.2.2.1.1
  · intro q h1 h2
    rw [ht]
    exact hH.2.2.2.1.2.1 q h1 h2
theorem G_iret {x : Int32} (hd : decode μ.2.1 pc = .ok (.ireturn, 1)) (hr : μ.2.2.2 = some .int) (hn : nc ≤ mc ∧ ns ≤ ms) (hp : post (some (.int x)) M) : G μ d mc ms post nc ns M al pc [.int x] := by
  intro E p l e R s m args below meth c H locs ls hC hH hL
  refine W.widen hn.1 hn.2 ?_
  exact W.iret hC.1 hC.2.1 (by rw [hC.2.2.1]; exact hr) (g_Q_of (r := some (.int x)) hH hp) hH.2.2.2.1.2.2 hd (hlocks := hC.2.2.2.2.2.2.1)
theorem G_zret {x : Int32} {ty : FieldType} (hd : decode μ.2.1 pc = .ok (.ireturn, 1)) (hr : μ.2.2.2 = some ty) (hx : narrow ty (.int x) = .int x) (hn : nc ≤ mc ∧ ns ≤ ms) (hp : post (some (.int x)) M) : G μ d mc ms post nc ns M al pc [.int x] := by
  intro E p l e R s m args below meth c H locs ls hC hH hL
  refine W.widen hn.1 hn.2 ?_
  exact W.zret hC.1 hC.2.1 (by rw [hC.2.2.1]; exact hr) hx (g_Q_of (r := some (.int x)) hH hp) hH.2.2.2.1.2.2 hd (hlocks := hC.2.2.2.2.2.2.1)
theorem G_lret {x : Int64} (hd : decode μ.2.1 pc = .ok (.lreturn, 1)) (hr : μ.2.2.2 = some .long) (hn : nc ≤ mc ∧ ns ≤ ms) (hp : post (some (.long x)) M) : G μ d mc ms post nc ns M al pc [.long x] := by
  intro E p l e R s m args below meth c H locs ls hC hH hL
  refine W.widen hn.1 hn.2 ?_
  exact W.lret hC.1 hC.2.1 (by rw [hC.2.2.1]; exact hr) (g_Q_of (r := some (.long x)) hH hp) hH.2.2.2.1.2.2 hd (hlocks := hC.2.2.2.2.2.2.1)
theorem G_vret (hd : decode μ.2.1 pc = .ok (.return_, 1)) (hr : μ.2.2.2 = none) (hn : nc ≤ mc ∧ ns ≤ ms) (hp : post none M) : G μ d mc ms post nc ns M al pc [] := by
  intro E p l e R s m args below meth c H locs ls hC hH hL
  refine W.widen hn.1 hn.2 ?_
  exact W.vret hC.1 hC.2.1 (by rw [hC.2.2.1]; exact hr) (g_Q_of (r := none) hH hp) hH.2.2.2.1.2.2 hd (hlocks := hC.2.2.2.2.2.2.1)
theorem G_aret {v : Value} {C : String} (hd : decode μ.2.1 pc = .ok (.areturn, 1)) (hr : μ.2.2.2 = some (.object C)) (hv : v = .null ∨ ∃ a, v = .ref a) (hn : nc ≤ mc ∧ ns ≤ ms) (hp : post (some v) M) : G μ d mc ms post nc ns M al pc [v] := by
  intro E p l e R s m args below meth c H locs ls hC hH hL
  refine W.widen hn.1 hn.2 ?_
  exact W.aret (v := g_v E v) hC.1 hC.2.1 (by rw [hC.2.2.1]; exact hr) (Or.inl ⟨C, rfl⟩) (by rcases hv with rfl | ⟨a, rfl⟩; exact Or.inl rfl; exact Or.inr ⟨_, rfl⟩) (g_Q_of (r := some v) hH hp) hH.2.2.2.1.2.2 hd (hlocks := hC.2.2.2.2.2.2.1)
end GT
end
section
/-! calls -/
def g_push : Option Value → List Value → List Value
  | none, st => st
  | some v, st => v :: st
def g_mt (μ : gMeth) (n : Nat) : Prop := (μ.1.cls ≠ "java/lang/invoke/MethodHandle" ∧ μ.1.cls ≠ "java/lang/invoke/VarHandle" ∧ (parseMethodDescriptor μ.1.desc).map (fun d => d.parameters.length) = some n) ∧ Cond.initialized μ.1.cls ∈ g_tb ∧ Cond.code μ.1 μ.2.1 μ.2.2.1 μ.2.2.2 ∈ g_tb ∧ μ.2.2.1 ≤ 61
section GC
variable {μ μ' : gMeth} {d mc ms d' mc' ms' : Nat} {post : gPost} {nc ns : Nat} {M : gMem} {al : List (Option Value)} {pc : Nat} {rest av : List Value}
theorem g_blind {E : gE} {vs : List Value} : FrameBlind (va_Pc vs (fun U => g_At E M U)) := by
  intro a U g mk h
  obtain ⟨h0, h1, h2, h3, h4, h5⟩ := h
  exact ⟨h0, va_K.moved (u := U) (U := U.calling g mk a) (Vm.Alike.refl U.vm) h1, h2, h3, h4, g_F.same (s := U) (U := U.calling g mk a) rfl rfl h5⟩
theorem g_pre {E : gE} {p : Program} {R : Room} {s : State} {m : MethodId} {args : Array Value} {meth : Method} {c : Code} {H : Heap} {locs : List Loc} (hC : g_C E μ d mc ms p R s m args meth c) (hH : g_H E M s H locs) (vs : List Value) : ∀ U : State, U.heap = H → s.WarmedH U.vm → va_Pc vs (fun U => g_At E M U) vs.toArray U := by
  intro U hU hW
  exact ⟨rfl, va_K.moved hW.alike hC.2.2.2.2.2.2.2.2.2.1, by rw [hU]; exact hH.1, by rw [hU]; exact hH.2.1, hH.2.2.1, g_F.to hW (fun a h1 h2 => by rw [hU]; exact hH.2.2.2.1.2.1 a h1 h2) hC.2.2.2.2.2.2.2.2.2.2⟩
theorem g_after {E : gE} {p : Program} {l : Launch} {e : Env} {R : Room} {s : State} {m : MethodId} {args : Array Value} {below : List Frame} {meth : Method} {c : Code} {H : Heap} {locs : List Loc} {ls : Array Slot} {stk : List Value} {a : Array Value}
    (hC : g_C E μ d mc ms p R s m args meth c) (hH : g_H E M s H locs) (hL : g_L E μ.2.2.1 al ls)
    (hr : va_Run p l e R s m args below meth c H locs nc ns mc' ms' (F0 m pc ls stk) (rest.map (g_v E)) (g_Q E (fun r M' => G μ d mc ms post (nc + mc') (ns + ms') M' al (pc + 3) (g_push r rest)) a) (g_A E)) :
    W p l e R s m args below meth c H locs nc ns (MQ below (g_Q E post) args s mc ms (g_A E)) (F0 m pc ls stk) := by
  intro T hT X
  obtain ⟨v, st₀, t, T', L, h0, X', hL', e1, e2, ⟨⟨r, M', hv, hp, hP', hz', hn'⟩, hz, hk⟩, st⟩ := hr T hT X
  cases hv
  rw [h0] at hz hk
  obtain ⟨t2, a1, b1⟩ := hp E p l e R s m args below meth c T'.heap (locs ++ L) ls hC ⟨by rw [e1]; exact hP', by rw [e1]; exact hz', hn', ⟨Nat.le_trans hH.2.2.2.1.1 (by rw [e1]; exact hz), fun q h1 h2 => by
      rw [e1, hk q (Nat.lt_of_lt_of_le h1 hH.2.2.2.1.1) h2]
      exact hH.2.2.2.1.2.1 q h1 h2, fun q hq => by
      rcases List.mem_append.mp hq with h | h
      · exact hH.2.2.2.1.2.2 q h
      · exact hL' q h⟩, hH.2.2.2.2⟩ hL T' rfl X'
  refine ⟨t2, st t2 ?_, b1⟩
  cases r with
  | none => exact a1
  | some v => exact a1
theorem g_goodws (hm : Cond.code μ.1 μ.2.1 μ.2.2.1 μ.2.2.2 ∈ g_tb) : GoodIn g_tb (g_ws μ) := g_good (fun w hw => by
  rcases List.mem_cons.mp hw with rfl | h
  · exact hm
  · exact h)
theorem g_roomok {R : Room} (hR : R = g_room d mc ms) (hdd : d' < d) (h61 : μ'.2.2.1 ≤ 61) : (g_room d' mc' ms').frames + 1 ≤ R.frames ∧ 8 + (μ'.2.2.1 + 11) + (g_room d' mc' ms').locals ≤ R.locals := by
  subst hR
  simp only [g_room]
  omega
theorem G_callS {idx n : Nat} (hm : g_mt μ' n) (hl : Cond.methodLink μ.1.cls idx μ'.1 ∈ g_tb) (hs : Cond.static μ'.1 ∈ g_tb) (hd : decode μ.2.1 pc = .ok (.invokestatic idx, 3)) (hn : av.length = n) (hdd : d' < d) (hc : nc + mc' ≤ mc ∧ ns + ms' ≤ ms) (hr : (rest.map fun v => v.category).sum ≤ 8)
    (h : gMet μ' d' mc' ms' av M (fun r M' => G μ d mc ms post (nc + mc') (ns + ms') M' al (pc + 3) (g_push r rest))) : G μ d mc ms post nc ns M al pc (av.reverse ++ rest) := by
  intro E p l e R s m args below meth c H locs ls hC hH hL
  have hts := hC.2.2.2.2.2.1
  have hR := hC.2.2.2.2.2.2.2.2.1
  refine g_after (rest := rest) hC hH hL (va_runS (As := av.map (g_v E)) (rest := rest.map (g_v E)) ⟨hC.1, hC.2.1, hC.2.2.2.1, hC.2.2.2.2.1, hts⟩ (h E l) ⟨callB_of n hts (g_goodws hm.2.2.1) rfl rfl rfl (hts _ hm.2.1) (hts _ hl) hm.1 (g_roomok hR hdd hm.2.2.2), hts _ hs⟩ ⟨g_blind, g_pre hC hH _⟩ rfl (by rw [List.length_map]; exact hn) hL.1 (by simp [List.map_append, List.map_reverse]) (lv_room (by simpa [Function.comp_def, g_v_cat] using hr)) hd (by rw [hR]; exact hc))
theorem G_callSN {idx n : Nat} (hm : g_mt μ' n) (hl : Cond.methodLinkNest μ.1.cls idx μ'.1 RX9 ∈ g_nest) (hs : Cond.static μ'.1 ∈ g_tb) (hd : decode μ.2.1 pc = .ok (.invokestatic idx, 3)) (hn : av.length = n) (hdd : d' < d) (hc : nc + mc' ≤ mc ∧ ns + ms' ≤ ms) (hr : (rest.map fun v => v.category).sum ≤ 8)
    (h : gMet μ' d' mc' ms' av M (fun r M' => G μ d mc ms post (nc + mc') (ns + ms') M' al (pc + 3) (g_push r rest))) : G μ d mc ms post nc ns M al pc (av.reverse ++ rest) := by
  intro E p l e R s m args below meth c H locs ls hC hH hL
  have hts := hC.2.2.2.2.2.1
  have hR := hC.2.2.2.2.2.2.2.2.1
  refine g_after (rest := rest) hC hH hL (va_runSN (As := av.map (g_v E)) (rest := rest.map (g_v E)) ⟨hC.1, hC.2.1, hC.2.2.2.1, hC.2.2.2.2.1, hts⟩ (h E l) ⟨va_cnB n hts (g_goodws hm.2.2.1) rfl rfl rfl (hC.2.2.2.2.2.2.2.2.2.2.2.2.1 _ hl) (hts _ hm.2.1) hm.1 (g_roomok hR hdd hm.2.2.2), hts _ hs, trivial⟩ ⟨g_blind, g_pre hC hH _⟩ rfl (by rw [List.length_map]; exact hn) hL.1 (by simp [List.map_append, List.map_reverse]) (lv_room (by simpa [Function.comp_def, g_v_cat] using hr)) hd (by rw [hR]; exact hc))
theorem G_callV {K : Nat → gK} {I : Nat → Nat → Int32} {J : Nat → Nat → Int64} {P : Nat → Nat → Option Nat} {n : Nat} {a ci idx na : Nat} (hm : g_mt μ' na) (hl : Cond.methodLink μ.1.cls idx μ'.1 ∈ g_tb) (hs : Cond.instanceMethod μ'.1 ∈ g_tb) (hs2 : Cond.selects μ'.1.cls μ'.1 μ'.1 ∈ g_tb) (hci : ci < 11 ∧ g_R ci = μ'.1.cls) (hk : gk K n a (.inl ci)) (hd : decode μ.2.1 pc = .ok (.invokevirtual idx, 3)) (hn : av.length = na) (hdd : d' < d) (hc : nc + mc' ≤ mc ∧ ns + ms' ≤ ms) (hr : (rest.map fun v => v.category).sum ≤ 8)
    (h : gMet μ' d' mc' ms' (.ref a :: av) (K, I, J, P, n) (fun r M' => G μ d mc ms post (nc + mc') (ns + ms') M' al (pc + 3) (g_push r rest))) : G μ d mc ms post nc ns (K, I, J, P, n) al pc (av.reverse ++ .ref a :: rest) := by
  intro E p l e R s m args below meth c H locs ls hC hH hL
  have hts := hC.2.2.2.2.2.1
  have hR := hC.2.2.2.2.2.2.2.2.1
  have hw := g_w_at (E := E) (M := (K, I, J, P, n)) hk.2
  rw [g_cell_o hk.1] at hw
  have hrec := va_recv hC.2.2.2.2.2.2.2.2.2.1 hH.1 (g_cl ci hci.1) hw
  rw [hci.2] at hrec
  refine g_after (rest := rest) hC hH hL (va_runV (C := μ'.1.cls) (b := g_ad E a) (As := av.map (g_v E)) (rest := rest.map (g_v E)) ⟨hC.1, hC.2.1, hC.2.2.2.1, hC.2.2.2.2.1, hts⟩ (h E l) ⟨callB_of na hts (g_goodws hm.2.2.1) rfl rfl rfl (hts _ hm.2.1) (hts _ hl) hm.1 (g_roomok hR hdd hm.2.2.2), hts _ hs, hts _ hs2⟩ ⟨g_blind, hrec, g_pre hC hH ((Value.ref a :: av).map (g_v E))⟩ rfl (by rw [List.length_map]; exact hn) hL.1 (by simp [List.map_append, List.map_reverse, g_v]) (lv_room (by simpa [Function.comp_def, g_v_cat] using hr)) hd (by rw [hR]; exact hc))
theorem G_callI {a idx na : Nat} (hm : g_mt μ' na) (hret : μ'.2.2.2 = none) (hini : μ'.1.name = "<init>") (hl : Cond.methodLink μ.1.cls idx μ'.1 ∈ g_tb) (hs : Cond.instanceMethod μ'.1 ∈ g_tb) (hd : decode μ.2.1 pc = .ok (.invokespecial idx, 3)) (hn : av.length = na) (hdd : d' < d) (hc : nc + mc' ≤ mc ∧ ns + ms' ≤ ms) (hr : (rest.map fun v => v.category).sum ≤ 8)
    (h : gMet μ' d' mc' ms' (.ref a :: av) M (fun r M' => G μ d mc ms post (nc + mc') (ns + ms') M' al (pc + 3) (g_push r rest))) : G μ d mc ms post nc ns M al pc (av.reverse ++ .ref a :: rest) := by
  intro E p l e R s m args below meth c H locs ls hC hH hL
  have hts := hC.2.2.2.2.2.1
  have hR := hC.2.2.2.2.2.2.2.2.1
  have hB := callB_of (R := R) (ws := g_ws μ') (rm := g_room d' mc' ms') na hts (g_goodws hm.2.2.1) rfl rfl rfl (hts _ hm.2.1) (hts _ hl) hm.1 (g_roomok hR hdd hm.2.2.2)
  rw [hret] at hB
  refine g_after (rest := rest) hC hH hL (va_runI (b := g_ad E a) (As := av.map (g_v E)) (rest := rest.map (g_v E)) ⟨hC.1, hC.2.1, hC.2.2.2.1, hC.2.2.2.2.1, hts⟩ (h E l) ⟨hB, hini, hts _ hs⟩ ⟨g_blind, g_pre hC hH ((Value.ref a :: av).map (g_v E))⟩ rfl (by rw [List.length_map]; exact hn) hL.1 (by simp [List.map_append, List.map_reverse, g_v]) (lv_room (by simpa [Function.comp_def, g_v_cat] using hr)) hd (by rw [hR]; exact hc))
theorem G_objinit {a idx : Nat} {st : List Value} (hl : Cond.methodLink μ.1.cls idx Lib.objectInit ∈ g_tb) (hd : decode μ.2.1 pc = .ok (.invokespecial idx, 3)) (hr : (st.map fun v => v.category).sum ≤ 8) (hw : Cond.instanceMethod Lib.objectInit ∈ g_tb ∧ Cond.code Lib.objectInit ⟨#[0xb1]⟩ 1 none ∈ g_tb) (k : G μ d mc ms post nc ns M al (pc + 3) st) : G μ d mc ms post nc ns M al pc (.ref a :: st) := by
  intro E p l e R s m args below meth c H locs ls hC hH hL
  have hts := hC.2.2.2.2.2.1
  have h2 : ((st.map (g_v E)).map fun v => v.category).sum = (st.map fun v => v.category).sum := by simp [Function.comp_def, g_v_cat]
  have hR := hC.2.2.2.2.2.2.2.2.1
  have h3 : 2 * (F0 m pc ls (st.map (g_v E))).monitorRoom + ((st.map (g_v E)).map fun v => v.category).sum ≤ 8 := lv_room (by rw [h2]; exact hr)
  refine W.objInit hC.1 hC.2.1 hC.2.2.2.2.1 (hts _ hl) (hts _ hw.1) (hts _ hw.2) rfl (by rw [hC.2.2.2.1]; exact hL.1) rfl hd (by rw [hR]; simp only [g_room]; omega) (by rw [hR]; simp only [g_room]; exact Nat.le_trans (Nat.add_le_add_right h3 12) (by omega)) (k E p l e R s m args below meth c H locs ls hC hH hL)

theorem G_cs0  {idx : Nat} (hm : g_mt μ' 0) (hl : Cond.methodLink μ.1.cls idx μ'.1 ∈ g_tb ∧ Cond.static μ'.1 ∈ g_tb) (hd : decode μ.2.1 pc = .ok (.invokestatic idx, 3)) (hdd : d' < d) (hc : nc + mc' ≤ mc ∧ ns + ms' ≤ ms) (hr : (rest.map fun v => v.category).sum ≤ 8) (h : gMet μ' d' mc' ms' [] M (fun r M' => G μ d mc ms post (nc + mc') (ns + ms') M' al (pc + 3) (g_push r rest))) : G μ d mc ms post nc ns M al pc (rest) := G_callS (av := []) hm hl.1 hl.2 hd rfl hdd hc hr h
theorem G_cv0 {K : Nat → gK} {I : Nat → Nat → Int32} {J : Nat → Nat → Int64} {P : Nat → Nat → Option Nat} {n : Nat}  {a ci idx : Nat} (hm : g_mt μ' 0) (hl : Cond.methodLink μ.1.cls idx μ'.1 ∈ g_tb ∧ Cond.instanceMethod μ'.1 ∈ g_tb ∧ Cond.selects μ'.1.cls μ'.1 μ'.1 ∈ g_tb) (hci : ci < 11 ∧ g_R ci = μ'.1.cls) (hk : gk K n a (.inl ci)) (hd : decode μ.2.1 pc = .ok (.invokevirtual idx, 3)) (hdd : d' < d) (hc : nc + mc' ≤ mc ∧ ns + ms' ≤ ms) (hr : (rest.map fun v => v.category).sum ≤ 8) (h : gMet μ' d' mc' ms' [.ref a] (K, I, J, P, n) (fun r M' => G μ d mc ms post (nc + mc') (ns + ms') M' al (pc + 3) (g_push r rest))) : G μ d mc ms post nc ns (K, I, J, P, n) al pc (.ref a :: rest) := G_callV (av := []) hm hl.1 hl.2.1 hl.2.2 hci hk hd rfl hdd hc hr h
theorem G_ci0  {a idx : Nat} (hm : g_mt μ' 0) (hi : μ'.2.2.2 = none ∧ μ'.1.name = "<init>") (hl : Cond.methodLink μ.1.cls idx μ'.1 ∈ g_tb ∧ Cond.instanceMethod μ'.1 ∈ g_tb) (hd : decode μ.2.1 pc = .ok (.invokespecial idx, 3)) (hdd : d' < d) (hc : nc + mc' ≤ mc ∧ ns + ms' ≤ ms) (hr : (rest.map fun v => v.category).sum ≤ 8) (h : gMet μ' d' mc' ms' [.ref a] M (fun r M' => G μ d mc ms post (nc + mc') (ns + ms') M' al (pc + 3) (g_push r rest))) : G μ d mc ms post nc ns M al pc (.ref a :: rest) := G_callI (av := []) hm hi.1 hi.2 hl.1 hl.2 hd rfl hdd hc hr h
theorem G_cs1 {v1 : Value} {idx : Nat} (hm : g_mt μ' 1) (hl : Cond.methodLink μ.1.cls idx μ'.1 ∈ g_tb ∧ Cond.static μ'.1 ∈ g_tb) (hd : decode μ.2.1 pc = .ok (.invokestatic idx, 3)) (hdd : d' < d) (hc : nc + mc' ≤ mc ∧ ns + ms' ≤ ms) (hr : (rest.map fun v => v.category).sum ≤ 8) (h : gMet μ' d' mc' ms' [v1] M (fun r M' => G μ d mc ms post (nc + mc') (ns + ms') M' al (pc + 3) (g_push r rest))) : G μ d mc ms post nc ns M al pc (v1 :: rest) := G_callS (av := [v1]) hm hl.1 hl.2 hd rfl hdd hc hr h
theorem G_csn1 {v1 : Value} {idx : Nat} (hm : g_mt μ' 1) (hl : Cond.methodLinkNest μ.1.cls idx μ'.1 RX9 ∈ g_nest ∧ Cond.static μ'.1 ∈ g_tb) (hd : decode μ.2.1 pc = .ok (.invokestatic idx, 3)) (hdd : d' < d) (hc : nc + mc' ≤ mc ∧ ns + ms' ≤ ms) (hr : (rest.map fun v => v.category).sum ≤ 8) (h : gMet μ' d' mc' ms' [v1] M (fun r M' => G μ d mc ms post (nc + mc') (ns + ms') M' al (pc + 3) (g_push r rest))) : G μ d mc ms post nc ns M al pc (v1 :: rest) := G_callSN (av := [v1]) hm hl.1 hl.2 hd rfl hdd hc hr h
theorem G_cv1 {K : Nat → gK} {I : Nat → Nat → Int32} {J : Nat → Nat → Int64} {P : Nat → Nat → Option Nat} {n : Nat} {v1 : Value} {a ci idx : Nat} (hm : g_mt μ' 1) (hl : Cond.methodLink μ.1.cls idx μ'.1 ∈ g_tb ∧ Cond.instanceMethod μ'.1 ∈ g_tb ∧ Cond.selects μ'.1.cls μ'.1 μ'.1 ∈ g_tb) (hci : ci < 11 ∧ g_R ci = μ'.1.cls) (hk : gk K n a (.inl ci)) (hd : decode μ.2.1 pc = .ok (.invokevirtual idx, 3)) (hdd : d' < d) (hc : nc + mc' ≤ mc ∧ ns + ms' ≤ ms) (hr : (rest.map fun v => v.category).sum ≤ 8) (h : gMet μ' d' mc' ms' [.ref a, v1] (K, I, J, P, n) (fun r M' => G μ d mc ms post (nc + mc') (ns + ms') M' al (pc + 3) (g_push r rest))) : G μ d mc ms post nc ns (K, I, J, P, n) al pc (v1 :: .ref a :: rest) := G_callV (av := [v1]) hm hl.1 hl.2.1 hl.2.2 hci hk hd rfl hdd hc hr h
theorem G_cs2 {v1 v2 : Value} {idx : Nat} (hm : g_mt μ' 2) (hl : Cond.methodLink μ.1.cls idx μ'.1 ∈ g_tb ∧ Cond.static μ'.1 ∈ g_tb) (hd : decode μ.2.1 pc = .ok (.invokestatic idx, 3)) (hdd : d' < d) (hc : nc + mc' ≤ mc ∧ ns + ms' ≤ ms) (hr : (rest.map fun v => v.category).sum ≤ 8) (h : gMet μ' d' mc' ms' [v1, v2] M (fun r M' => G μ d mc ms post (nc + mc') (ns + ms') M' al (pc + 3) (g_push r rest))) : G μ d mc ms post nc ns M al pc (v2 :: v1 :: rest) := G_callS (av := [v1, v2]) hm hl.1 hl.2 hd rfl hdd hc hr h
theorem G_csn2 {v1 v2 : Value} {idx : Nat} (hm : g_mt μ' 2) (hl : Cond.methodLinkNest μ.1.cls idx μ'.1 RX9 ∈ g_nest ∧ Cond.static μ'.1 ∈ g_tb) (hd : decode μ.2.1 pc = .ok (.invokestatic idx, 3)) (hdd : d' < d) (hc : nc + mc' ≤ mc ∧ ns + ms' ≤ ms) (hr : (rest.map fun v => v.category).sum ≤ 8) (h : gMet μ' d' mc' ms' [v1, v2] M (fun r M' => G μ d mc ms post (nc + mc') (ns + ms') M' al (pc + 3) (g_push r rest))) : G μ d mc ms post nc ns M al pc (v2 :: v1 :: rest) := G_callSN (av := [v1, v2]) hm hl.1 hl.2 hd rfl hdd hc hr h
theorem G_cv2 {K : Nat → gK} {I : Nat → Nat → Int32} {J : Nat → Nat → Int64} {P : Nat → Nat → Option Nat} {n : Nat} {v1 v2 : Value} {a ci idx : Nat} (hm : g_mt μ' 2) (hl : Cond.methodLink μ.1.cls idx μ'.1 ∈ g_tb ∧ Cond.instanceMethod μ'.1 ∈ g_tb ∧ Cond.selects μ'.1.cls μ'.1 μ'.1 ∈ g_tb) (hci : ci < 11 ∧ g_R ci = μ'.1.cls) (hk : gk K n a (.inl ci)) (hd : decode μ.2.1 pc = .ok (.invokevirtual idx, 3)) (hdd : d' < d) (hc : nc + mc' ≤ mc ∧ ns + ms' ≤ ms) (hr : (rest.map fun v => v.category).sum ≤ 8) (h : gMet μ' d' mc' ms' [.ref a, v1, v2] (K, I, J, P, n) (fun r M' => G μ d mc ms post (nc + mc') (ns + ms') M' al (pc + 3) (g_push r rest))) : G μ d mc ms post nc ns (K, I, J, P, n) al pc (v2 :: v1 :: .ref a :: rest) := G_callV (av := [v1, v2]) hm hl.1 hl.2.1 hl.2.2 hci hk hd rfl hdd hc hr h
theorem G_cs3 {v1 v2 v3 : Value} {idx : Nat} (hm : g_mt μ' 3) (hl : Cond.methodLink μ.1.cls idx μ'.1 ∈ g_tb ∧ Cond.static μ'.1 ∈ g_tb) (hd : decode μ.2.1 pc = .ok (.invokestatic idx, 3)) (hdd : d' < d) (hc : nc + mc' ≤ mc ∧ ns + ms' ≤ ms) (hr : (rest.map fun v => v.category).sum ≤ 8) (h : gMet μ' d' mc' ms' [v1, v2, v3] M (fun r M' => G μ d mc ms post (nc + mc') (ns + ms') M' al (pc + 3) (g_push r rest))) : G μ d mc ms post nc ns M al pc (v3 :: v2 :: v1 :: rest) := G_callS (av := [v1, v2, v3]) hm hl.1 hl.2 hd rfl hdd hc hr h
theorem G_csn3 {v1 v2 v3 : Value} {idx : Nat} (hm : g_mt μ' 3) (hl : Cond.methodLinkNest μ.1.cls idx μ'.1 RX9 ∈ g_nest ∧ Cond.static μ'.1 ∈ g_tb) (hd : decode μ.2.1 pc = .ok (.invokestatic idx, 3)) (hdd : d' < d) (hc : nc + mc' ≤ mc ∧ ns + ms' ≤ ms) (hr : (rest.map fun v => v.category).sum ≤ 8) (h : gMet μ' d' mc' ms' [v1, v2, v3] M (fun r M' => G μ d mc ms post (nc + mc') (ns + ms') M' al (pc + 3) (g_push r rest))) : G μ d mc ms post nc ns M al pc (v3 :: v2 :: v1 :: rest) := G_callSN (av := [v1, v2, v3]) hm hl.1 hl.2 hd rfl hdd hc hr h
theorem G_cv3 {K : Nat → gK} {I : Nat → Nat → Int32} {J : Nat → Nat → Int64} {P : Nat → Nat → Option Nat} {n : Nat} {v1 v2 v3 : Value} {a ci idx : Nat} (hm : g_mt μ' 3) (hl : Cond.methodLink μ.1.cls idx μ'.1 ∈ g_tb ∧ Cond.instanceMethod μ'.1 ∈ g_tb ∧ Cond.selects μ'.1.cls μ'.1 μ'.1 ∈ g_tb) (hci : ci < 11 ∧ g_R ci = μ'.1.cls) (hk : gk K n a (.inl ci)) (hd : decode μ.2.1 pc = .ok (.invokevirtual idx, 3)) (hdd : d' < d) (hc : nc + mc' ≤ mc ∧ ns + ms' ≤ ms) (hr : (rest.map fun v => v.category).sum ≤ 8) (h : gMet μ' d' mc' ms' [.ref a, v1, v2, v3] (K, I, J, P, n) (fun r M' => G μ d mc ms post (nc + mc') (ns + ms') M' al (pc + 3) (g_push r rest))) : G μ d mc ms post nc ns (K, I, J, P, n) al pc (v3 :: v2 :: v1 :: .ref a :: rest) := G_callV (av := [v1, v2, v3]) hm hl.1 hl.2.1 hl.2.2 hci hk hd rfl hdd hc hr h
theorem G_ci3 {v1 v2 v3 : Value} {a idx : Nat} (hm : g_mt μ' 3) (hi : μ'.2.2.2 = none ∧ μ'.1.name = "<init>") (hl : Cond.methodLink μ.1.cls idx μ'.1 ∈ g_tb ∧ Cond.instanceMethod μ'.1 ∈ g_tb) (hd : decode μ.2.1 pc = .ok (.invokespecial idx, 3)) (hdd : d' < d) (hc : nc + mc' ≤ mc ∧ ns + ms' ≤ ms) (hr : (rest.map fun v => v.category).sum ≤ 8) (h : gMet μ' d' mc' ms' [.ref a, v1, v2, v3] M (fun r M' => G μ d mc ms post (nc + mc') (ns + ms') M' al (pc + 3) (g_push r rest))) : G μ d mc ms post nc ns M al pc (v3 :: v2 :: v1 :: .ref a :: rest) := G_callI (av := [v1, v2, v3]) hm hi.1 hi.2 hl.1 hl.2 hd rfl hdd hc hr h
theorem G_cs4 {v1 v2 v3 v4 : Value} {idx : Nat} (hm : g_mt μ' 4) (hl : Cond.methodLink μ.1.cls idx μ'.1 ∈ g_tb ∧ Cond.static μ'.1 ∈ g_tb) (hd : decode μ.2.1 pc = .ok (.invokestatic idx, 3)) (hdd : d' < d) (hc : nc + mc' ≤ mc ∧ ns + ms' ≤ ms) (hr : (rest.map fun v => v.category).sum ≤ 8) (h : gMet μ' d' mc' ms' [v1, v2, v3, v4] M (fun r M' => G μ d mc ms post (nc + mc') (ns + ms') M' al (pc + 3) (g_push r rest))) : G μ d mc ms post nc ns M al pc (v4 :: v3 :: v2 :: v1 :: rest) := G_callS (av := [v1, v2, v3, v4]) hm hl.1 hl.2 hd rfl hdd hc hr h
theorem G_csn4 {v1 v2 v3 v4 : Value} {idx : Nat} (hm : g_mt μ' 4) (hl : Cond.methodLinkNest μ.1.cls idx μ'.1 RX9 ∈ g_nest ∧ Cond.static μ'.1 ∈ g_tb) (hd : decode μ.2.1 pc = .ok (.invokestatic idx, 3)) (hdd : d' < d) (hc : nc + mc' ≤ mc ∧ ns + ms' ≤ ms) (hr : (rest.map fun v => v.category).sum ≤ 8) (h : gMet μ' d' mc' ms' [v1, v2, v3, v4] M (fun r M' => G μ d mc ms post (nc + mc') (ns + ms') M' al (pc + 3) (g_push r rest))) : G μ d mc ms post nc ns M al pc (v4 :: v3 :: v2 :: v1 :: rest) := G_callSN (av := [v1, v2, v3, v4]) hm hl.1 hl.2 hd rfl hdd hc hr h
theorem G_cv4 {K : Nat → gK} {I : Nat → Nat → Int32} {J : Nat → Nat → Int64} {P : Nat → Nat → Option Nat} {n : Nat} {v1 v2 v3 v4 : Value} {a ci idx : Nat} (hm : g_mt μ' 4) (hl : Cond.methodLink μ.1.cls idx μ'.1 ∈ g_tb ∧ Cond.instanceMethod μ'.1 ∈ g_tb ∧ Cond.selects μ'.1.cls μ'.1 μ'.1 ∈ g_tb) (hci : ci < 11 ∧ g_R ci = μ'.1.cls) (hk : gk K n a (.inl ci)) (hd : decode μ.2.1 pc = .ok (.invokevirtual idx, 3)) (hdd : d' < d) (hc : nc + mc' ≤ mc ∧ ns + ms' ≤ ms) (hr : (rest.map fun v => v.category).sum ≤ 8) (h : gMet μ' d' mc' ms' [.ref a, v1, v2, v3, v4] (K, I, J, P, n) (fun r M' => G μ d mc ms post (nc + mc') (ns + ms') M' al (pc + 3) (g_push r rest))) : G μ d mc ms post nc ns (K, I, J, P, n) al pc (v4 :: v3 :: v2 :: v1 :: .ref a :: rest) := G_callV (av := [v1, v2, v3, v4]) hm hl.1 hl.2.1 hl.2.2 hci hk hd rfl hdd hc hr h
theorem G_cs5 {v1 v2 v3 v4 v5 : Value} {idx : Nat} (hm : g_mt μ' 5) (hl : Cond.methodLink μ.1.cls idx μ'.1 ∈ g_tb ∧ Cond.static μ'.1 ∈ g_tb) (hd : decode μ.2.1 pc = .ok (.invokestatic idx, 3)) (hdd : d' < d) (hc : nc + mc' ≤ mc ∧ ns + ms' ≤ ms) (hr : (rest.map fun v => v.category).sum ≤ 8) (h : gMet μ' d' mc' ms' [v1, v2, v3, v4, v5] M (fun r M' => G μ d mc ms post (nc + mc') (ns + ms') M' al (pc + 3) (g_push r rest))) : G μ d mc ms post nc ns M al pc (v5 :: v4 :: v3 :: v2 :: v1 :: rest) := G_callS (av := [v1, v2, v3, v4, v5]) hm hl.1 hl.2 hd rfl hdd hc hr h
theorem G_cv5 {K : Nat → gK} {I : Nat → Nat → Int32} {J : Nat → Nat → Int64} {P : Nat → Nat → Option Nat} {n : Nat} {v1 v2 v3 v4 v5 : Value} {a ci idx : Nat} (hm : g_mt μ' 5) (hl : Cond.methodLink μ.1.cls idx μ'.1 ∈ g_tb ∧ Cond.instanceMethod μ'.1 ∈ g_tb ∧ Cond.selects μ'.1.cls μ'.1 μ'.1 ∈ g_tb) (hci : ci < 11 ∧ g_R ci = μ'.1.cls) (hk : gk K n a (.inl ci)) (hd : decode μ.2.1 pc = .ok (.invokevirtual idx, 3)) (hdd : d' < d) (hc : nc + mc' ≤ mc ∧ ns + ms' ≤ ms) (hr : (rest.map fun v => v.category).sum ≤ 8) (h : gMet μ' d' mc' ms' [.ref a, v1, v2, v3, v4, v5] (K, I, J, P, n) (fun r M' => G μ d mc ms post (nc + mc') (ns + ms') M' al (pc + 3) (g_push r rest))) : G μ d mc ms post nc ns (K, I, J, P, n) al pc (v5 :: v4 :: v3 :: v2 :: v1 :: .ref a :: rest) := G_callV (av := [v1, v2, v3, v4, v5]) hm hl.1 hl.2.1 hl.2.2 hci hk hd rfl hdd hc hr h
theorem G_cs6 {v1 v2 v3 v4 v5 v6 : Value} {idx : Nat} (hm : g_mt μ' 6) (hl : Cond.methodLink μ.1.cls idx μ'.1 ∈ g_tb ∧ Cond.static μ'.1 ∈ g_tb) (hd : decode μ.2.1 pc = .ok (.invokestatic idx, 3)) (hdd : d' < d) (hc : nc + mc' ≤ mc ∧ ns + ms' ≤ ms) (hr : (rest.map fun v => v.category).sum ≤ 8) (h : gMet μ' d' mc' ms' [v1, v2, v3, v4, v5, v6] M (fun r M' => G μ d mc ms post (nc + mc') (ns + ms') M' al (pc + 3) (g_push r rest))) : G μ d mc ms post nc ns M al pc (v6 :: v5 :: v4 :: v3 :: v2 :: v1 :: rest) := G_callS (av := [v1, v2, v3, v4, v5, v6]) hm hl.1 hl.2 hd rfl hdd hc hr h
theorem G_cv6 {K : Nat → gK} {I : Nat → Nat → Int32} {J : Nat → Nat → Int64} {P : Nat → Nat → Option Nat} {n : Nat} {v1 v2 v3 v4 v5 v6 : Value} {a ci idx : Nat} (hm : g_mt μ' 6) (hl : Cond.methodLink μ.1.cls idx μ'.1 ∈ g_tb ∧ Cond.instanceMethod μ'.1 ∈ g_tb ∧ Cond.selects μ'.1.cls μ'.1 μ'.1 ∈ g_tb) (hci : ci < 11 ∧ g_R ci = μ'.1.cls) (hk : gk K n a (.inl ci)) (hd : decode μ.2.1 pc = .ok (.invokevirtual idx, 3)) (hdd : d' < d) (hc : nc + mc' ≤ mc ∧ ns + ms' ≤ ms) (hr : (rest.map fun v => v.category).sum ≤ 8) (h : gMet μ' d' mc' ms' [.ref a, v1, v2, v3, v4, v5, v6] (K, I, J, P, n) (fun r M' => G μ d mc ms post (nc + mc') (ns + ms') M' al (pc + 3) (g_push r rest))) : G μ d mc ms post nc ns (K, I, J, P, n) al pc (v6 :: v5 :: v4 :: v3 :: v2 :: v1 :: .ref a :: rest) := G_callV (av := [v1, v2, v3, v4, v5, v6]) hm hl.1 hl.2.1 hl.2.2 hci hk hd rfl hdd hc hr h
theorem G_cs7 {v1 v2 v3 v4 v5 v6 v7 : Value} {idx : Nat} (hm : g_mt μ' 7) (hl : Cond.methodLink μ.1.cls idx μ'.1 ∈ g_tb ∧ Cond.static μ'.1 ∈ g_tb) (hd : decode μ.2.1 pc = .ok (.invokestatic idx, 3)) (hdd : d' < d) (hc : nc + mc' ≤ mc ∧ ns + ms' ≤ ms) (hr : (rest.map fun v => v.category).sum ≤ 8) (h : gMet μ' d' mc' ms' [v1, v2, v3, v4, v5, v6, v7] M (fun r M' => G μ d mc ms post (nc + mc') (ns + ms') M' al (pc + 3) (g_push r rest))) : G μ d mc ms post nc ns M al pc (v7 :: v6 :: v5 :: v4 :: v3 :: v2 :: v1 :: rest) := G_callS (av := [v1, v2, v3, v4, v5, v6, v7]) hm hl.1 hl.2 hd rfl hdd hc hr h
theorem G_cv7 {K : Nat → gK} {I : Nat → Nat → Int32} {J : Nat → Nat → Int64} {P : Nat → Nat → Option Nat} {n : Nat} {v1 v2 v3 v4 v5 v6 v7 : Value} {a ci idx : Nat} (hm : g_mt μ' 7) (hl : Cond.methodLink μ.1.cls idx μ'.1 ∈ g_tb ∧ Cond.instanceMethod μ'.1 ∈ g_tb ∧ Cond.selects μ'.1.cls μ'.1 μ'.1 ∈ g_tb) (hci : ci < 11 ∧ g_R ci = μ'.1.cls) (hk : gk K n a (.inl ci)) (hd : decode μ.2.1 pc = .ok (.invokevirtual idx, 3)) (hdd : d' < d) (hc : nc + mc' ≤ mc ∧ ns + ms' ≤ ms) (hr : (rest.map fun v => v.category).sum ≤ 8) (h : gMet μ' d' mc' ms' [.ref a, v1, v2, v3, v4, v5, v6, v7] (K, I, J, P, n) (fun r M' => G μ d mc ms post (nc + mc') (ns + ms') M' al (pc + 3) (g_push r rest))) : G μ d mc ms post nc ns (K, I, J, P, n) al pc (v7 :: v6 :: v5 :: v4 :: v3 :: v2 :: v1 :: .ref a :: rest) := G_callV (av := [v1, v2, v3, v4, v5, v6, v7]) hm hl.1 hl.2.1 hl.2.2 hci hk hd rfl hdd hc hr h
end GC
end
