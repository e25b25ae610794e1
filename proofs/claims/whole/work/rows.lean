section
-- ===== PART A: goes FIRST, ahead of the names: the tables' words, and 'selects' of the private methods out of them =====
/-- a private method of a class that the tables say can be made, by its rows of tables_1 -/
def lw_okq (q : MethodName × Nat) : Prop := (q.1.cls ≠ "java/lang/invoke/MethodHandle" ∧ q.1.cls ≠ "java/lang/invoke/VarHandle") ∧ Cond.instantiable q.1.cls q.2 ∈ tables_1 ∧ Cond.privateMethod q.1 ∈ tables_1 ∧ Cond.instanceMethod q.1 ∈ tables_1
theorem lw_p0 : lw_okq (⟨"LongBoats$Reader", "nextToken", "()V"⟩, 8) := ⟨⟨by decide +kernel, by decide +kernel⟩, List.mem_of_getElem? (i := 122) (by decide +kernel), List.mem_of_getElem? (i := 416) (by decide +kernel), List.mem_of_getElem? (i := 417) (by decide +kernel)⟩
theorem lw_p1 : lw_okq (⟨"LongBoats$Reader", "readLine", "()V"⟩, 8) := ⟨⟨by decide +kernel, by decide +kernel⟩, List.mem_of_getElem? (i := 122) (by decide +kernel), List.mem_of_getElem? (i := 438) (by decide +kernel), List.mem_of_getElem? (i := 439) (by decide +kernel)⟩
theorem lw_p2 : lw_okq (⟨"LongBoats$Reader", "readHarbour", "()V"⟩, 8) := ⟨⟨by decide +kernel, by decide +kernel⟩, List.mem_of_getElem? (i := 122) (by decide +kernel), List.mem_of_getElem? (i := 442) (by decide +kernel), List.mem_of_getElem? (i := 443) (by decide +kernel)⟩
theorem lw_p3 : lw_okq (⟨"LongBoats$Reader", "word", "(Ljava/lang/String;)V"⟩, 8) := ⟨⟨by decide +kernel, by decide +kernel⟩, List.mem_of_getElem? (i := 122) (by decide +kernel), List.mem_of_getElem? (i := 447) (by decide +kernel), List.mem_of_getElem? (i := 448) (by decide +kernel)⟩
theorem lw_p4 : lw_okq (⟨"LongBoats$Reader", "isWord", "(Ljava/lang/String;)Z"⟩, 8) := ⟨⟨by decide +kernel, by decide +kernel⟩, List.mem_of_getElem? (i := 122) (by decide +kernel), List.mem_of_getElem? (i := 451) (by decide +kernel), List.mem_of_getElem? (i := 452) (by decide +kernel)⟩
theorem lw_p5 : lw_okq (⟨"LongBoats$Reader", "fail", "(I)V"⟩, 8) := ⟨⟨by decide +kernel, by decide +kernel⟩, List.mem_of_getElem? (i := 122) (by decide +kernel), List.mem_of_getElem? (i := 503) (by decide +kernel), List.mem_of_getElem? (i := 504) (by decide +kernel)⟩
theorem lw_p6 : lw_okq (⟨"LongBoats$Reader", "number", "(II)I"⟩, 8) := ⟨⟨by decide +kernel, by decide +kernel⟩, List.mem_of_getElem? (i := 122) (by decide +kernel), List.mem_of_getElem? (i := 508) (by decide +kernel), List.mem_of_getElem? (i := 509) (by decide +kernel)⟩
theorem lw_p7 : lw_okq (⟨"LongBoats$Reader", "readReach", "()V"⟩, 8) := ⟨⟨by decide +kernel, by decide +kernel⟩, List.mem_of_getElem? (i := 122) (by decide +kernel), List.mem_of_getElem? (i := 516) (by decide +kernel), List.mem_of_getElem? (i := 517) (by decide +kernel)⟩
theorem lw_p8 : lw_okq (⟨"LongBoats$Reader", "readBoat", "()V"⟩, 8) := ⟨⟨by decide +kernel, by decide +kernel⟩, List.mem_of_getElem? (i := 122) (by decide +kernel), List.mem_of_getElem? (i := 522) (by decide +kernel), List.mem_of_getElem? (i := 523) (by decide +kernel)⟩
theorem lw_p9 : lw_okq (⟨"LongBoats$Reader", "readMan", "()V"⟩, 8) := ⟨⟨by decide +kernel, by decide +kernel⟩, List.mem_of_getElem? (i := 122) (by decide +kernel), List.mem_of_getElem? (i := 537) (by decide +kernel), List.mem_of_getElem? (i := 538) (by decide +kernel)⟩
theorem lw_p10 : lw_okq (⟨"LongBoats$Reader", "readTrait", "(Ljava/lang/String;I)V"⟩, 8) := ⟨⟨by decide +kernel, by decide +kernel⟩, List.mem_of_getElem? (i := 122) (by decide +kernel), List.mem_of_getElem? (i := 542) (by decide +kernel), List.mem_of_getElem? (i := 543) (by decide +kernel)⟩
theorem lw_p11 : lw_okq (⟨"LongBoats$Reader", "aim", "()I"⟩, 8) := ⟨⟨by decide +kernel, by decide +kernel⟩, List.mem_of_getElem? (i := 122) (by decide +kernel), List.mem_of_getElem? (i := 561) (by decide +kernel), List.mem_of_getElem? (i := 562) (by decide +kernel)⟩
theorem lw_p12 : lw_okq (⟨"LongBoats$Reader", "readTeam", "()V"⟩, 8) := ⟨⟨by decide +kernel, by decide +kernel⟩, List.mem_of_getElem? (i := 122) (by decide +kernel), List.mem_of_getElem? (i := 569) (by decide +kernel), List.mem_of_getElem? (i := 570) (by decide +kernel)⟩
theorem lw_p13 : lw_okq (⟨"LongBoats$Reader", "readMate", "()V"⟩, 8) := ⟨⟨by decide +kernel, by decide +kernel⟩, List.mem_of_getElem? (i := 122) (by decide +kernel), List.mem_of_getElem? (i := 577) (by decide +kernel), List.mem_of_getElem? (i := 578) (by decide +kernel)⟩
theorem lw_p14 : lw_okq (⟨"LongBoats$Reader", "sign", "()V"⟩, 8) := ⟨⟨by decide +kernel, by decide +kernel⟩, List.mem_of_getElem? (i := 122) (by decide +kernel), List.mem_of_getElem? (i := 611) (by decide +kernel), List.mem_of_getElem? (i := 612) (by decide +kernel)⟩
theorem lw_p15 : lw_okq (⟨"LongBoats", "faces", "(IIII)Z"⟩, 9) := ⟨⟨by decide +kernel, by decide +kernel⟩, List.mem_of_getElem? (i := 19) (by decide +kernel), List.mem_of_getElem? (i := 703) (by decide +kernel), List.mem_of_getElem? (i := 704) (by decide +kernel)⟩
def lw_privs_1 : List (MethodName × Nat) := [(⟨"LongBoats$Reader", "nextToken", "()V"⟩, 8), (⟨"LongBoats$Reader", "readLine", "()V"⟩, 8), (⟨"LongBoats$Reader", "readHarbour", "()V"⟩, 8), (⟨"LongBoats$Reader", "word", "(Ljava/lang/String;)V"⟩, 8), (⟨"LongBoats$Reader", "isWord", "(Ljava/lang/String;)Z"⟩, 8), (⟨"LongBoats$Reader", "fail", "(I)V"⟩, 8), (⟨"LongBoats$Reader", "number", "(II)I"⟩, 8), (⟨"LongBoats$Reader", "readReach", "()V"⟩, 8), (⟨"LongBoats$Reader", "readBoat", "()V"⟩, 8), (⟨"LongBoats$Reader", "readMan", "()V"⟩, 8), (⟨"LongBoats$Reader", "readTrait", "(Ljava/lang/String;I)V"⟩, 8), (⟨"LongBoats$Reader", "aim", "()I"⟩, 8), (⟨"LongBoats$Reader", "readTeam", "()V"⟩, 8), (⟨"LongBoats$Reader", "readMate", "()V"⟩, 8), (⟨"LongBoats$Reader", "sign", "()V"⟩, 8), (⟨"LongBoats", "faces", "(IIII)Z"⟩, 9)]
theorem lw_r1 : ∀ q ∈ lw_privs_1, lw_okq q := List.forall_mem_cons.mpr ⟨lw_p0, List.forall_mem_cons.mpr ⟨lw_p1, List.forall_mem_cons.mpr ⟨lw_p2, List.forall_mem_cons.mpr ⟨lw_p3, List.forall_mem_cons.mpr ⟨lw_p4, List.forall_mem_cons.mpr ⟨lw_p5, List.forall_mem_cons.mpr ⟨lw_p6, List.forall_mem_cons.mpr ⟨lw_p7, List.forall_mem_cons.mpr ⟨lw_p8, List.forall_mem_cons.mpr ⟨lw_p9, List.forall_mem_cons.mpr ⟨lw_p10, List.forall_mem_cons.mpr ⟨lw_p11, List.forall_mem_cons.mpr ⟨lw_p12, List.forall_mem_cons.mpr ⟨lw_p13, List.forall_mem_cons.mpr ⟨lw_p14, List.forall_mem_cons.mpr ⟨lw_p15, fun _ h => absurd h List.not_mem_nil⟩⟩⟩⟩⟩⟩⟩⟩⟩⟩⟩⟩⟩⟩⟩⟩
theorem lw_p16 : lw_okq (⟨"LongBoats$Duel", "fateOf", "(ILLongBoats$Fighter;ILLongBoats$Fighter;I)I"⟩, 15) := ⟨⟨by decide +kernel, by decide +kernel⟩, List.mem_of_getElem? (i := 179) (by decide +kernel), List.mem_of_getElem? (i := 723) (by decide +kernel), List.mem_of_getElem? (i := 724) (by decide +kernel)⟩
theorem lw_p17 : lw_okq (⟨"LongBoats$Duel", "drawnGap", "()I"⟩, 15) := ⟨⟨by decide +kernel, by decide +kernel⟩, List.mem_of_getElem? (i := 179) (by decide +kernel), List.mem_of_getElem? (i := 745) (by decide +kernel), List.mem_of_getElem? (i := 746) (by decide +kernel)⟩
theorem lw_p18 : lw_okq (⟨"LongBoats", "lastPass", "()I"⟩, 9) := ⟨⟨by decide +kernel, by decide +kernel⟩, List.mem_of_getElem? (i := 19) (by decide +kernel), List.mem_of_getElem? (i := 759) (by decide +kernel), List.mem_of_getElem? (i := 760) (by decide +kernel)⟩
theorem lw_p19 : lw_okq (⟨"LongBoats$Grid", "isBeatenBy", "(II)Z"⟩, 1) := ⟨⟨by decide +kernel, by decide +kernel⟩, List.mem_of_getElem? (i := 336) (by decide +kernel), List.mem_of_getElem? (i := 898) (by decide +kernel), List.mem_of_getElem? (i := 899) (by decide +kernel)⟩
theorem lw_p20 : lw_okq (⟨"LongBoats", "meets", "(II)Z"⟩, 9) := ⟨⟨by decide +kernel, by decide +kernel⟩, List.mem_of_getElem? (i := 19) (by decide +kernel), List.mem_of_getElem? (i := 906) (by decide +kernel), List.mem_of_getElem? (i := 907) (by decide +kernel)⟩
theorem lw_p21 : lw_okq (⟨"LongBoats$Contest", "fight", "(IIII)V"⟩, 12) := ⟨⟨by decide +kernel, by decide +kernel⟩, List.mem_of_getElem? (i := 288) (by decide +kernel), List.mem_of_getElem? (i := 926) (by decide +kernel), List.mem_of_getElem? (i := 927) (by decide +kernel)⟩
theorem lw_p22 : lw_okq (⟨"LongBoats$Contest", "note", "(II)V"⟩, 12) := ⟨⟨by decide +kernel, by decide +kernel⟩, List.mem_of_getElem? (i := 288) (by decide +kernel), List.mem_of_getElem? (i := 932) (by decide +kernel), List.mem_of_getElem? (i := 933) (by decide +kernel)⟩
theorem lw_p23 : lw_okq (⟨"LongBoats$Contest", "sortFirsts", "()V"⟩, 12) := ⟨⟨by decide +kernel, by decide +kernel⟩, List.mem_of_getElem? (i := 288) (by decide +kernel), List.mem_of_getElem? (i := 967) (by decide +kernel), List.mem_of_getElem? (i := 968) (by decide +kernel)⟩
theorem lw_p24 : lw_okq (⟨"LongBoats$Contest", "exchange", "(II)V"⟩, 12) := ⟨⟨by decide +kernel, by decide +kernel⟩, List.mem_of_getElem? (i := 288) (by decide +kernel), List.mem_of_getElem? (i := 971) (by decide +kernel), List.mem_of_getElem? (i := 972) (by decide +kernel)⟩
theorem lw_p25 : lw_okq (⟨"LongBoats$Contest", "nextOrder", "()Z"⟩, 12) := ⟨⟨by decide +kernel, by decide +kernel⟩, List.mem_of_getElem? (i := 288) (by decide +kernel), List.mem_of_getElem? (i := 976) (by decide +kernel), List.mem_of_getElem? (i := 977) (by decide +kernel)⟩
theorem lw_p26 : lw_okq (⟨"LongBoats$Contest", "beatenOrders", "(IIIIII)I"⟩, 12) := ⟨⟨by decide +kernel, by decide +kernel⟩, List.mem_of_getElem? (i := 288) (by decide +kernel), List.mem_of_getElem? (i := 997) (by decide +kernel), List.mem_of_getElem? (i := 998) (by decide +kernel)⟩
theorem lw_p27 : lw_okq (⟨"LongBoats$Contest", "beatenByComing", "(IIII)I"⟩, 12) := ⟨⟨by decide +kernel, by decide +kernel⟩, List.mem_of_getElem? (i := 288) (by decide +kernel), List.mem_of_getElem? (i := 1001) (by decide +kernel), List.mem_of_getElem? (i := 1002) (by decide +kernel)⟩
theorem lw_p28 : lw_okq (⟨"LongBoats", "edgeWays", "(II)J"⟩, 9) := ⟨⟨by decide +kernel, by decide +kernel⟩, List.mem_of_getElem? (i := 19) (by decide +kernel), List.mem_of_getElem? (i := 1053) (by decide +kernel), List.mem_of_getElem? (i := 1054) (by decide +kernel)⟩
theorem lw_p29 : lw_okq (⟨"LongBoats", "otherWays", "(II)J"⟩, 9) := ⟨⟨by decide +kernel, by decide +kernel⟩, List.mem_of_getElem? (i := 19) (by decide +kernel), List.mem_of_getElem? (i := 1065) (by decide +kernel), List.mem_of_getElem? (i := 1066) (by decide +kernel)⟩
theorem lw_p30 : lw_okq (⟨"LongBoats", "pictureFault", "(I)I"⟩, 9) := ⟨⟨by decide +kernel, by decide +kernel⟩, List.mem_of_getElem? (i := 19) (by decide +kernel), List.mem_of_getElem? (i := 1078) (by decide +kernel), List.mem_of_getElem? (i := 1079) (by decide +kernel)⟩
theorem lw_p31 : lw_okq (⟨"LongBoats", "gapBits", "(I)I"⟩, 9) := ⟨⟨by decide +kernel, by decide +kernel⟩, List.mem_of_getElem? (i := 19) (by decide +kernel), List.mem_of_getElem? (i := 1103) (by decide +kernel), List.mem_of_getElem? (i := 1104) (by decide +kernel)⟩
def lw_privs_2 : List (MethodName × Nat) := [(⟨"LongBoats$Duel", "fateOf", "(ILLongBoats$Fighter;ILLongBoats$Fighter;I)I"⟩, 15), (⟨"LongBoats$Duel", "drawnGap", "()I"⟩, 15), (⟨"LongBoats", "lastPass", "()I"⟩, 9), (⟨"LongBoats$Grid", "isBeatenBy", "(II)Z"⟩, 1), (⟨"LongBoats", "meets", "(II)Z"⟩, 9), (⟨"LongBoats$Contest", "fight", "(IIII)V"⟩, 12), (⟨"LongBoats$Contest", "note", "(II)V"⟩, 12), (⟨"LongBoats$Contest", "sortFirsts", "()V"⟩, 12), (⟨"LongBoats$Contest", "exchange", "(II)V"⟩, 12), (⟨"LongBoats$Contest", "nextOrder", "()Z"⟩, 12), (⟨"LongBoats$Contest", "beatenOrders", "(IIIIII)I"⟩, 12), (⟨"LongBoats$Contest", "beatenByComing", "(IIII)I"⟩, 12), (⟨"LongBoats", "edgeWays", "(II)J"⟩, 9), (⟨"LongBoats", "otherWays", "(II)J"⟩, 9), (⟨"LongBoats", "pictureFault", "(I)I"⟩, 9), (⟨"LongBoats", "gapBits", "(I)I"⟩, 9)]
theorem lw_r2 : ∀ q ∈ lw_privs_2, lw_okq q := List.forall_mem_cons.mpr ⟨lw_p16, List.forall_mem_cons.mpr ⟨lw_p17, List.forall_mem_cons.mpr ⟨lw_p18, List.forall_mem_cons.mpr ⟨lw_p19, List.forall_mem_cons.mpr ⟨lw_p20, List.forall_mem_cons.mpr ⟨lw_p21, List.forall_mem_cons.mpr ⟨lw_p22, List.forall_mem_cons.mpr ⟨lw_p23, List.forall_mem_cons.mpr ⟨lw_p24, List.forall_mem_cons.mpr ⟨lw_p25, List.forall_mem_cons.mpr ⟨lw_p26, List.forall_mem_cons.mpr ⟨lw_p27, List.forall_mem_cons.mpr ⟨lw_p28, List.forall_mem_cons.mpr ⟨lw_p29, List.forall_mem_cons.mpr ⟨lw_p30, List.forall_mem_cons.mpr ⟨lw_p31, fun _ h => absurd h List.not_mem_nil⟩⟩⟩⟩⟩⟩⟩⟩⟩⟩⟩⟩⟩⟩⟩⟩
theorem lw_p32 : lw_okq (⟨"LongBoats", "showPicture", "(II)V"⟩, 9) := ⟨⟨by decide +kernel, by decide +kernel⟩, List.mem_of_getElem? (i := 19) (by decide +kernel), List.mem_of_getElem? (i := 1108) (by decide +kernel), List.mem_of_getElem? (i := 1109) (by decide +kernel)⟩
theorem lw_p33 : lw_okq (⟨"LongBoats", "isSure", "(IIII)Z"⟩, 9) := ⟨⟨by decide +kernel, by decide +kernel⟩, List.mem_of_getElem? (i := 19) (by decide +kernel), List.mem_of_getElem? (i := 1116) (by decide +kernel), List.mem_of_getElem? (i := 1117) (by decide +kernel)⟩
theorem lw_p34 : lw_okq (⟨"LongBoats", "firstFate", "(IIII)I"⟩, 9) := ⟨⟨by decide +kernel, by decide +kernel⟩, List.mem_of_getElem? (i := 19) (by decide +kernel), List.mem_of_getElem? (i := 1136) (by decide +kernel), List.mem_of_getElem? (i := 1137) (by decide +kernel)⟩
theorem lw_p35 : lw_okq (⟨"LongBoats", "hasOut", "(IIII)Z"⟩, 9) := ⟨⟨by decide +kernel, by decide +kernel⟩, List.mem_of_getElem? (i := 19) (by decide +kernel), List.mem_of_getElem? (i := 1148) (by decide +kernel), List.mem_of_getElem? (i := 1149) (by decide +kernel)⟩
theorem lw_p36 : lw_okq (⟨"LongBoats", "closesRing", "(IIII)I"⟩, 9) := ⟨⟨by decide +kernel, by decide +kernel⟩, List.mem_of_getElem? (i := 19) (by decide +kernel), List.mem_of_getElem? (i := 1152) (by decide +kernel), List.mem_of_getElem? (i := 1153) (by decide +kernel)⟩
theorem lw_p37 : lw_okq (⟨"LongBoatsModel", "advance", "()V"⟩, 39) := ⟨⟨by decide +kernel, by decide +kernel⟩, List.mem_of_getElem? (i := 1246) (by decide +kernel), List.mem_of_getElem? (i := 1398) (by decide +kernel), List.mem_of_getElem? (i := 1399) (by decide +kernel)⟩
theorem lw_p38 : lw_okq (⟨"LongBoatsModel", "see", "(I)I"⟩, 39) := ⟨⟨by decide +kernel, by decide +kernel⟩, List.mem_of_getElem? (i := 1246) (by decide +kernel), List.mem_of_getElem? (i := 1402) (by decide +kernel), List.mem_of_getElem? (i := 1403) (by decide +kernel)⟩
theorem lw_p39 : lw_okq (⟨"LongBoatsModel", "good", "()Z"⟩, 39) := ⟨⟨by decide +kernel, by decide +kernel⟩, List.mem_of_getElem? (i := 1246) (by decide +kernel), List.mem_of_getElem? (i := 1412) (by decide +kernel), List.mem_of_getElem? (i := 1413) (by decide +kernel)⟩
theorem lw_p40 : lw_okq (⟨"LongBoatsModel", "readLine", "()V"⟩, 39) := ⟨⟨by decide +kernel, by decide +kernel⟩, List.mem_of_getElem? (i := 1246) (by decide +kernel), List.mem_of_getElem? (i := 1416) (by decide +kernel), List.mem_of_getElem? (i := 1417) (by decide +kernel)⟩
theorem lw_p41 : lw_okq (⟨"LongBoatsModel", "needs", "(Ljava/lang/String;)V"⟩, 39) := ⟨⟨by decide +kernel, by decide +kernel⟩, List.mem_of_getElem? (i := 1246) (by decide +kernel), List.mem_of_getElem? (i := 1421) (by decide +kernel), List.mem_of_getElem? (i := 1422) (by decide +kernel)⟩
theorem lw_p42 : lw_okq (⟨"LongBoatsModel", "takes", "(Ljava/lang/String;)Z"⟩, 39) := ⟨⟨by decide +kernel, by decide +kernel⟩, List.mem_of_getElem? (i := 1246) (by decide +kernel), List.mem_of_getElem? (i := 1425) (by decide +kernel), List.mem_of_getElem? (i := 1426) (by decide +kernel)⟩
theorem lw_p43 : lw_okq (⟨"LongBoatsModel", "is", "(Ljava/lang/String;)Z"⟩, 39) := ⟨⟨by decide +kernel, by decide +kernel⟩, List.mem_of_getElem? (i := 1246) (by decide +kernel), List.mem_of_getElem? (i := 1429) (by decide +kernel), List.mem_of_getElem? (i := 1430) (by decide +kernel)⟩
theorem lw_p44 : lw_okq (⟨"LongBoatsModel", "errs", "(I)V"⟩, 39) := ⟨⟨by decide +kernel, by decide +kernel⟩, List.mem_of_getElem? (i := 1246) (by decide +kernel), List.mem_of_getElem? (i := 1435) (by decide +kernel), List.mem_of_getElem? (i := 1436) (by decide +kernel)⟩
theorem lw_p45 : lw_okq (⟨"LongBoatsModel", "told", "(Ljava/lang/String;II)I"⟩, 39) := ⟨⟨by decide +kernel, by decide +kernel⟩, List.mem_of_getElem? (i := 1246) (by decide +kernel), List.mem_of_getElem? (i := 1440) (by decide +kernel), List.mem_of_getElem? (i := 1441) (by decide +kernel)⟩
theorem lw_p46 : lw_okq (⟨"LongBoatsModel", "number", "(II)I"⟩, 39) := ⟨⟨by decide +kernel, by decide +kernel⟩, List.mem_of_getElem? (i := 1246) (by decide +kernel), List.mem_of_getElem? (i := 1444) (by decide +kernel), List.mem_of_getElem? (i := 1445) (by decide +kernel)⟩
theorem lw_p47 : lw_okq (⟨"LongBoatsModel", "readNext", "()V"⟩, 39) := ⟨⟨by decide +kernel, by decide +kernel⟩, List.mem_of_getElem? (i := 1246) (by decide +kernel), List.mem_of_getElem? (i := 1450) (by decide +kernel), List.mem_of_getElem? (i := 1451) (by decide +kernel)⟩
def lw_privs_3 : List (MethodName × Nat) := [(⟨"LongBoats", "showPicture", "(II)V"⟩, 9), (⟨"LongBoats", "isSure", "(IIII)Z"⟩, 9), (⟨"LongBoats", "firstFate", "(IIII)I"⟩, 9), (⟨"LongBoats", "hasOut", "(IIII)Z"⟩, 9), (⟨"LongBoats", "closesRing", "(IIII)I"⟩, 9), (⟨"LongBoatsModel", "advance", "()V"⟩, 39), (⟨"LongBoatsModel", "see", "(I)I"⟩, 39), (⟨"LongBoatsModel", "good", "()Z"⟩, 39), (⟨"LongBoatsModel", "readLine", "()V"⟩, 39), (⟨"LongBoatsModel", "needs", "(Ljava/lang/String;)V"⟩, 39), (⟨"LongBoatsModel", "takes", "(Ljava/lang/String;)Z"⟩, 39), (⟨"LongBoatsModel", "is", "(Ljava/lang/String;)Z"⟩, 39), (⟨"LongBoatsModel", "errs", "(I)V"⟩, 39), (⟨"LongBoatsModel", "told", "(Ljava/lang/String;II)I"⟩, 39), (⟨"LongBoatsModel", "number", "(II)I"⟩, 39), (⟨"LongBoatsModel", "readNext", "()V"⟩, 39)]
theorem lw_r3 : ∀ q ∈ lw_privs_3, lw_okq q := List.forall_mem_cons.mpr ⟨lw_p32, List.forall_mem_cons.mpr ⟨lw_p33, List.forall_mem_cons.mpr ⟨lw_p34, List.forall_mem_cons.mpr ⟨lw_p35, List.forall_mem_cons.mpr ⟨lw_p36, List.forall_mem_cons.mpr ⟨lw_p37, List.forall_mem_cons.mpr ⟨lw_p38, List.forall_mem_cons.mpr ⟨lw_p39, List.forall_mem_cons.mpr ⟨lw_p40, List.forall_mem_cons.mpr ⟨lw_p41, List.forall_mem_cons.mpr ⟨lw_p42, List.forall_mem_cons.mpr ⟨lw_p43, List.forall_mem_cons.mpr ⟨lw_p44, List.forall_mem_cons.mpr ⟨lw_p45, List.forall_mem_cons.mpr ⟨lw_p46, List.forall_mem_cons.mpr ⟨lw_p47, fun _ h => absurd h List.not_mem_nil⟩⟩⟩⟩⟩⟩⟩⟩⟩⟩⟩⟩⟩⟩⟩⟩
theorem lw_p48 : lw_okq (⟨"LongBoatsModel", "readReach", "()V"⟩, 39) := ⟨⟨by decide +kernel, by decide +kernel⟩, List.mem_of_getElem? (i := 1246) (by decide +kernel), List.mem_of_getElem? (i := 1459) (by decide +kernel), List.mem_of_getElem? (i := 1460) (by decide +kernel)⟩
theorem lw_p49 : lw_okq (⟨"LongBoatsModel", "readMan", "()V"⟩, 39) := ⟨⟨by decide +kernel, by decide +kernel⟩, List.mem_of_getElem? (i := 1246) (by decide +kernel), List.mem_of_getElem? (i := 1466) (by decide +kernel), List.mem_of_getElem? (i := 1467) (by decide +kernel)⟩
theorem lw_p50 : lw_okq (⟨"LongBoatsModel", "readTeam", "()V"⟩, 39) := ⟨⟨by decide +kernel, by decide +kernel⟩, List.mem_of_getElem? (i := 1246) (by decide +kernel), List.mem_of_getElem? (i := 1479) (by decide +kernel), List.mem_of_getElem? (i := 1480) (by decide +kernel)⟩
theorem lw_p51 : lw_okq (⟨"LongBoatsModel", "isMan", "(J)Z"⟩, 39) := ⟨⟨by decide +kernel, by decide +kernel⟩, List.mem_of_getElem? (i := 1246) (by decide +kernel), List.mem_of_getElem? (i := 1487) (by decide +kernel), List.mem_of_getElem? (i := 1488) (by decide +kernel)⟩
theorem lw_p52 : lw_okq (⟨"LongBoatsModel", "of", "(II)I"⟩, 39) := ⟨⟨by decide +kernel, by decide +kernel⟩, List.mem_of_getElem? (i := 1246) (by decide +kernel), List.mem_of_getElem? (i := 1492) (by decide +kernel), List.mem_of_getElem? (i := 1493) (by decide +kernel)⟩
theorem lw_p53 : lw_okq (⟨"LongBoatsModel", "isBoat", "(I)Z"⟩, 39) := ⟨⟨by decide +kernel, by decide +kernel⟩, List.mem_of_getElem? (i := 1246) (by decide +kernel), List.mem_of_getElem? (i := 1500) (by decide +kernel), List.mem_of_getElem? (i := 1501) (by decide +kernel)⟩
theorem lw_p54 : lw_okq (⟨"LongBoatsModel", "isTeam", "(I)Z"⟩, 39) := ⟨⟨by decide +kernel, by decide +kernel⟩, List.mem_of_getElem? (i := 1246) (by decide +kernel), List.mem_of_getElem? (i := 1508) (by decide +kernel), List.mem_of_getElem? (i := 1509) (by decide +kernel)⟩
theorem lw_p55 : lw_okq (⟨"LongBoatsModel", "boatOf", "(I)I"⟩, 39) := ⟨⟨by decide +kernel, by decide +kernel⟩, List.mem_of_getElem? (i := 1246) (by decide +kernel), List.mem_of_getElem? (i := 1512) (by decide +kernel), List.mem_of_getElem? (i := 1513) (by decide +kernel)⟩
theorem lw_p56 : lw_okq (⟨"LongBoatsModel", "manyOf", "(I)I"⟩, 39) := ⟨⟨by decide +kernel, by decide +kernel⟩, List.mem_of_getElem? (i := 1246) (by decide +kernel), List.mem_of_getElem? (i := 1516) (by decide +kernel), List.mem_of_getElem? (i := 1517) (by decide +kernel)⟩
theorem lw_p57 : lw_okq (⟨"LongBoatsModel", "memberOf", "(II)I"⟩, 39) := ⟨⟨by decide +kernel, by decide +kernel⟩, List.mem_of_getElem? (i := 1246) (by decide +kernel), List.mem_of_getElem? (i := 1520) (by decide +kernel), List.mem_of_getElem? (i := 1521) (by decide +kernel)⟩
theorem lw_p58 : lw_okq (⟨"LongBoatsModel", "speedOf", "(II)I"⟩, 39) := ⟨⟨by decide +kernel, by decide +kernel⟩, List.mem_of_getElem? (i := 1246) (by decide +kernel), List.mem_of_getElem? (i := 1528) (by decide +kernel), List.mem_of_getElem? (i := 1529) (by decide +kernel)⟩
theorem lw_p59 : lw_okq (⟨"LongBoatsModel", "oarsOf", "(I)I"⟩, 39) := ⟨⟨by decide +kernel, by decide +kernel⟩, List.mem_of_getElem? (i := 1246) (by decide +kernel), List.mem_of_getElem? (i := 1532) (by decide +kernel), List.mem_of_getElem? (i := 1533) (by decide +kernel)⟩
theorem lw_p60 : lw_okq (⟨"LongBoatsModel", "forceOf", "(III)I"⟩, 39) := ⟨⟨by decide +kernel, by decide +kernel⟩, List.mem_of_getElem? (i := 1246) (by decide +kernel), List.mem_of_getElem? (i := 1547) (by decide +kernel), List.mem_of_getElem? (i := 1548) (by decide +kernel)⟩
theorem lw_p61 : lw_okq (⟨"LongBoatsModel", "areSo", "(IIII)Z"⟩, 39) := ⟨⟨by decide +kernel, by decide +kernel⟩, List.mem_of_getElem? (i := 1246) (by decide +kernel), List.mem_of_getElem? (i := 1555) (by decide +kernel), List.mem_of_getElem? (i := 1556) (by decide +kernel)⟩
theorem lw_p62 : lw_okq (⟨"LongBoatsModel", "standsOf", "(IIII)I"⟩, 39) := ⟨⟨by decide +kernel, by decide +kernel⟩, List.mem_of_getElem? (i := 1246) (by decide +kernel), List.mem_of_getElem? (i := 1559) (by decide +kernel), List.mem_of_getElem? (i := 1560) (by decide +kernel)⟩
theorem lw_p63 : lw_okq (⟨"LongBoatsModel", "resultOf", "(IIIIII)I"⟩, 39) := ⟨⟨by decide +kernel, by decide +kernel⟩, List.mem_of_getElem? (i := 1246) (by decide +kernel), List.mem_of_getElem? (i := 1569) (by decide +kernel), List.mem_of_getElem? (i := 1570) (by decide +kernel)⟩
def lw_privs_4 : List (MethodName × Nat) := [(⟨"LongBoatsModel", "readReach", "()V"⟩, 39), (⟨"LongBoatsModel", "readMan", "()V"⟩, 39), (⟨"LongBoatsModel", "readTeam", "()V"⟩, 39), (⟨"LongBoatsModel", "isMan", "(J)Z"⟩, 39), (⟨"LongBoatsModel", "of", "(II)I"⟩, 39), (⟨"LongBoatsModel", "isBoat", "(I)Z"⟩, 39), (⟨"LongBoatsModel", "isTeam", "(I)Z"⟩, 39), (⟨"LongBoatsModel", "boatOf", "(I)I"⟩, 39), (⟨"LongBoatsModel", "manyOf", "(I)I"⟩, 39), (⟨"LongBoatsModel", "memberOf", "(II)I"⟩, 39), (⟨"LongBoatsModel", "speedOf", "(II)I"⟩, 39), (⟨"LongBoatsModel", "oarsOf", "(I)I"⟩, 39), (⟨"LongBoatsModel", "forceOf", "(III)I"⟩, 39), (⟨"LongBoatsModel", "areSo", "(IIII)Z"⟩, 39), (⟨"LongBoatsModel", "standsOf", "(IIII)I"⟩, 39), (⟨"LongBoatsModel", "resultOf", "(IIIIII)I"⟩, 39)]
theorem lw_r4 : ∀ q ∈ lw_privs_4, lw_okq q := List.forall_mem_cons.mpr ⟨lw_p48, List.forall_mem_cons.mpr ⟨lw_p49, List.forall_mem_cons.mpr ⟨lw_p50, List.forall_mem_cons.mpr ⟨lw_p51, List.forall_mem_cons.mpr ⟨lw_p52, List.forall_mem_cons.mpr ⟨lw_p53, List.forall_mem_cons.mpr ⟨lw_p54, List.forall_mem_cons.mpr ⟨lw_p55, List.forall_mem_cons.mpr ⟨lw_p56, List.forall_mem_cons.mpr ⟨lw_p57, List.forall_mem_cons.mpr ⟨lw_p58, List.forall_mem_cons.mpr ⟨lw_p59, List.forall_mem_cons.mpr ⟨lw_p60, List.forall_mem_cons.mpr ⟨lw_p61, List.forall_mem_cons.mpr ⟨lw_p62, List.forall_mem_cons.mpr ⟨lw_p63, fun _ h => absurd h List.not_mem_nil⟩⟩⟩⟩⟩⟩⟩⟩⟩⟩⟩⟩⟩⟩⟩⟩
theorem lw_p64 : lw_okq (⟨"LongBoatsModel", "whyOf", "(IIIIII)I"⟩, 39) := ⟨⟨by decide +kernel, by decide +kernel⟩, List.mem_of_getElem? (i := 1246) (by decide +kernel), List.mem_of_getElem? (i := 1573) (by decide +kernel), List.mem_of_getElem? (i := 1574) (by decide +kernel)⟩
theorem lw_p65 : lw_okq (⟨"LongBoatsModel", "isThrustOff", "(IIIII)Z"⟩, 39) := ⟨⟨by decide +kernel, by decide +kernel⟩, List.mem_of_getElem? (i := 1246) (by decide +kernel), List.mem_of_getElem? (i := 1577) (by decide +kernel), List.mem_of_getElem? (i := 1578) (by decide +kernel)⟩
theorem lw_p66 : lw_okq (⟨"LongBoatsModel", "goes", "(IIIIIIZ)V"⟩, 39) := ⟨⟨by decide +kernel, by decide +kernel⟩, List.mem_of_getElem? (i := 1246) (by decide +kernel), List.mem_of_getElem? (i := 1589) (by decide +kernel), List.mem_of_getElem? (i := 1590) (by decide +kernel)⟩
theorem lw_p67 : lw_okq (⟨"LongBoatsModel", "slipDrawn", "(I)I"⟩, 39) := ⟨⟨by decide +kernel, by decide +kernel⟩, List.mem_of_getElem? (i := 1246) (by decide +kernel), List.mem_of_getElem? (i := 1593) (by decide +kernel), List.mem_of_getElem? (i := 1594) (by decide +kernel)⟩
theorem lw_p68 : lw_okq (⟨"LongBoatsModel", "slipOf", "(I)I"⟩, 39) := ⟨⟨by decide +kernel, by decide +kernel⟩, List.mem_of_getElem? (i := 1246) (by decide +kernel), List.mem_of_getElem? (i := 1597) (by decide +kernel), List.mem_of_getElem? (i := 1598) (by decide +kernel)⟩
theorem lw_p69 : lw_okq (⟨"LongBoatsModel", "draw", "(I)I"⟩, 39) := ⟨⟨by decide +kernel, by decide +kernel⟩, List.mem_of_getElem? (i := 1246) (by decide +kernel), List.mem_of_getElem? (i := 1601) (by decide +kernel), List.mem_of_getElem? (i := 1602) (by decide +kernel)⟩
theorem lw_p70 : lw_okq (⟨"LongBoatsModel", "comingOf", "(IIII)I"⟩, 39) := ⟨⟨by decide +kernel, by decide +kernel⟩, List.mem_of_getElem? (i := 1246) (by decide +kernel), List.mem_of_getElem? (i := 1614) (by decide +kernel), List.mem_of_getElem? (i := 1615) (by decide +kernel)⟩
theorem lw_p71 : lw_okq (⟨"LongBoatsModel", "kindOf", "(I)I"⟩, 39) := ⟨⟨by decide +kernel, by decide +kernel⟩, List.mem_of_getElem? (i := 1246) (by decide +kernel), List.mem_of_getElem? (i := 1618) (by decide +kernel), List.mem_of_getElem? (i := 1619) (by decide +kernel)⟩
theorem lw_p72 : lw_okq (⟨"LongBoatsModel", "pairsOf", "(II)I"⟩, 39) := ⟨⟨by decide +kernel, by decide +kernel⟩, List.mem_of_getElem? (i := 1246) (by decide +kernel), List.mem_of_getElem? (i := 1622) (by decide +kernel), List.mem_of_getElem? (i := 1623) (by decide +kernel)⟩
theorem lw_p73 : lw_okq (⟨"LongBoatsModel", "resultsOf", "(IIIIII)I"⟩, 39) := ⟨⟨by decide +kernel, by decide +kernel⟩, List.mem_of_getElem? (i := 1246) (by decide +kernel), List.mem_of_getElem? (i := 1642) (by decide +kernel), List.mem_of_getElem? (i := 1643) (by decide +kernel)⟩
theorem lw_p74 : lw_okq (⟨"LongBoatsModel", "choose", "(II)V"⟩, 39) := ⟨⟨by decide +kernel, by decide +kernel⟩, List.mem_of_getElem? (i := 1246) (by decide +kernel), List.mem_of_getElem? (i := 1663) (by decide +kernel), List.mem_of_getElem? (i := 1664) (by decide +kernel)⟩
theorem lw_p75 : lw_okq (⟨"LongBoatsModel", "set", "(III)V"⟩, 39) := ⟨⟨by decide +kernel, by decide +kernel⟩, List.mem_of_getElem? (i := 1246) (by decide +kernel), List.mem_of_getElem? (i := 1667) (by decide +kernel), List.mem_of_getElem? (i := 1668) (by decide +kernel)⟩
theorem lw_p76 : lw_okq (⟨"LongBoatsModel", "gainOf", "(IIII)I"⟩, 39) := ⟨⟨by decide +kernel, by decide +kernel⟩, List.mem_of_getElem? (i := 1246) (by decide +kernel), List.mem_of_getElem? (i := 1671) (by decide +kernel), List.mem_of_getElem? (i := 1672) (by decide +kernel)⟩
theorem lw_p77 : lw_okq (⟨"LongBoatsModel", "lay", "(IIII)V"⟩, 39) := ⟨⟨by decide +kernel, by decide +kernel⟩, List.mem_of_getElem? (i := 1246) (by decide +kernel), List.mem_of_getElem? (i := 1695) (by decide +kernel), List.mem_of_getElem? (i := 1696) (by decide +kernel)⟩
theorem lw_p78 : lw_okq (⟨"LongBoatsModel", "gameOf", "(II)I"⟩, 39) := ⟨⟨by decide +kernel, by decide +kernel⟩, List.mem_of_getElem? (i := 1246) (by decide +kernel), List.mem_of_getElem? (i := 1699) (by decide +kernel), List.mem_of_getElem? (i := 1700) (by decide +kernel)⟩
theorem lw_p79 : lw_okq (⟨"LongBoatsModel", "replyTo", "(I)I"⟩, 39) := ⟨⟨by decide +kernel, by decide +kernel⟩, List.mem_of_getElem? (i := 1246) (by decide +kernel), List.mem_of_getElem? (i := 1707) (by decide +kernel), List.mem_of_getElem? (i := 1708) (by decide +kernel)⟩
def lw_privs_5 : List (MethodName × Nat) := [(⟨"LongBoatsModel", "whyOf", "(IIIIII)I"⟩, 39), (⟨"LongBoatsModel", "isThrustOff", "(IIIII)Z"⟩, 39), (⟨"LongBoatsModel", "goes", "(IIIIIIZ)V"⟩, 39), (⟨"LongBoatsModel", "slipDrawn", "(I)I"⟩, 39), (⟨"LongBoatsModel", "slipOf", "(I)I"⟩, 39), (⟨"LongBoatsModel", "draw", "(I)I"⟩, 39), (⟨"LongBoatsModel", "comingOf", "(IIII)I"⟩, 39), (⟨"LongBoatsModel", "kindOf", "(I)I"⟩, 39), (⟨"LongBoatsModel", "pairsOf", "(II)I"⟩, 39), (⟨"LongBoatsModel", "resultsOf", "(IIIIII)I"⟩, 39), (⟨"LongBoatsModel", "choose", "(II)V"⟩, 39), (⟨"LongBoatsModel", "set", "(III)V"⟩, 39), (⟨"LongBoatsModel", "gainOf", "(IIII)I"⟩, 39), (⟨"LongBoatsModel", "lay", "(IIII)V"⟩, 39), (⟨"LongBoatsModel", "gameOf", "(II)I"⟩, 39), (⟨"LongBoatsModel", "replyTo", "(I)I"⟩, 39)]
theorem lw_r5 : ∀ q ∈ lw_privs_5, lw_okq q := List.forall_mem_cons.mpr ⟨lw_p64, List.forall_mem_cons.mpr ⟨lw_p65, List.forall_mem_cons.mpr ⟨lw_p66, List.forall_mem_cons.mpr ⟨lw_p67, List.forall_mem_cons.mpr ⟨lw_p68, List.forall_mem_cons.mpr ⟨lw_p69, List.forall_mem_cons.mpr ⟨lw_p70, List.forall_mem_cons.mpr ⟨lw_p71, List.forall_mem_cons.mpr ⟨lw_p72, List.forall_mem_cons.mpr ⟨lw_p73, List.forall_mem_cons.mpr ⟨lw_p74, List.forall_mem_cons.mpr ⟨lw_p75, List.forall_mem_cons.mpr ⟨lw_p76, List.forall_mem_cons.mpr ⟨lw_p77, List.forall_mem_cons.mpr ⟨lw_p78, List.forall_mem_cons.mpr ⟨lw_p79, fun _ h => absurd h List.not_mem_nil⟩⟩⟩⟩⟩⟩⟩⟩⟩⟩⟩⟩⟩⟩⟩⟩
theorem lw_p80 : lw_okq (⟨"LongBoatsModel", "bestTo", "(I)I"⟩, 39) := ⟨⟨by decide +kernel, by decide +kernel⟩, List.mem_of_getElem? (i := 1246) (by decide +kernel), List.mem_of_getElem? (i := 1715) (by decide +kernel), List.mem_of_getElem? (i := 1716) (by decide +kernel)⟩
theorem lw_p81 : lw_okq (⟨"LongBoatsModel", "isRest", "(II)Z"⟩, 39) := ⟨⟨by decide +kernel, by decide +kernel⟩, List.mem_of_getElem? (i := 1246) (by decide +kernel), List.mem_of_getElem? (i := 1723) (by decide +kernel), List.mem_of_getElem? (i := 1724) (by decide +kernel)⟩
theorem lw_p82 : lw_okq (⟨"LongBoatsModel", "isVain", "(II)Z"⟩, 39) := ⟨⟨by decide +kernel, by decide +kernel⟩, List.mem_of_getElem? (i := 1246) (by decide +kernel), List.mem_of_getElem? (i := 1735) (by decide +kernel), List.mem_of_getElem? (i := 1736) (by decide +kernel)⟩
theorem lw_p83 : lw_okq (⟨"LongBoatsModel", "areTeams", "(II)Z"⟩, 39) := ⟨⟨by decide +kernel, by decide +kernel⟩, List.mem_of_getElem? (i := 1246) (by decide +kernel), List.mem_of_getElem? (i := 1743) (by decide +kernel), List.mem_of_getElem? (i := 1744) (by decide +kernel)⟩
theorem lw_p84 : lw_okq (⟨"LongBoatsModel", "playsAsTold", "(II)V"⟩, 39) := ⟨⟨by decide +kernel, by decide +kernel⟩, List.mem_of_getElem? (i := 1246) (by decide +kernel), List.mem_of_getElem? (i := 1747) (by decide +kernel), List.mem_of_getElem? (i := 1748) (by decide +kernel)⟩
theorem lw_p85 : lw_okq (⟨"LongBoatsModel", "layRows", "(II)V"⟩, 39) := ⟨⟨by decide +kernel, by decide +kernel⟩, List.mem_of_getElem? (i := 1246) (by decide +kernel), List.mem_of_getElem? (i := 1751) (by decide +kernel), List.mem_of_getElem? (i := 1752) (by decide +kernel)⟩
theorem lw_p86 : lw_okq (⟨"LongBoatsModel", "plays", "(IIZ)V"⟩, 39) := ⟨⟨by decide +kernel, by decide +kernel⟩, List.mem_of_getElem? (i := 1246) (by decide +kernel), List.mem_of_getElem? (i := 1755) (by decide +kernel), List.mem_of_getElem? (i := 1756) (by decide +kernel)⟩
theorem lw_p87 : lw_okq (⟨"LongBoatsModel", "ofMatch", "(I)I"⟩, 39) := ⟨⟨by decide +kernel, by decide +kernel⟩, List.mem_of_getElem? (i := 1246) (by decide +kernel), List.mem_of_getElem? (i := 1759) (by decide +kernel), List.mem_of_getElem? (i := 1760) (by decide +kernel)⟩
theorem lw_p88 : lw_okq (⟨"LongBoatsModel", "isIn", "(II)Z"⟩, 39) := ⟨⟨by decide +kernel, by decide +kernel⟩, List.mem_of_getElem? (i := 1246) (by decide +kernel), List.mem_of_getElem? (i := 1767) (by decide +kernel), List.mem_of_getElem? (i := 1768) (by decide +kernel)⟩
theorem lw_p89 : lw_okq (⟨"LongBoatsModel", "ordersOf", "(II)V"⟩, 39) := ⟨⟨by decide +kernel, by decide +kernel⟩, List.mem_of_getElem? (i := 1246) (by decide +kernel), List.mem_of_getElem? (i := 1779) (by decide +kernel), List.mem_of_getElem? (i := 1780) (by decide +kernel)⟩
theorem lw_p90 : lw_okq (⟨"LongBoatsModel", "worth", "()I"⟩, 39) := ⟨⟨by decide +kernel, by decide +kernel⟩, List.mem_of_getElem? (i := 1246) (by decide +kernel), List.mem_of_getElem? (i := 1786) (by decide +kernel), List.mem_of_getElem? (i := 1787) (by decide +kernel)⟩
theorem lw_p91 : lw_okq (⟨"LongBoatsModel", "boldOf", "(II)V"⟩, 39) := ⟨⟨by decide +kernel, by decide +kernel⟩, List.mem_of_getElem? (i := 1246) (by decide +kernel), List.mem_of_getElem? (i := 1804) (by decide +kernel), List.mem_of_getElem? (i := 1805) (by decide +kernel)⟩
theorem lw_p92 : lw_okq (⟨"LongBoatsModel", "beatenOrders", "(II)I"⟩, 39) := ⟨⟨by decide +kernel, by decide +kernel⟩, List.mem_of_getElem? (i := 1246) (by decide +kernel), List.mem_of_getElem? (i := 1808) (by decide +kernel), List.mem_of_getElem? (i := 1809) (by decide +kernel)⟩
theorem lw_p93 : lw_okq (⟨"LongBoatsModel", "isHarbour", "()Z"⟩, 39) := ⟨⟨by decide +kernel, by decide +kernel⟩, List.mem_of_getElem? (i := 1246) (by decide +kernel), List.mem_of_getElem? (i := 1849) (by decide +kernel), List.mem_of_getElem? (i := 1850) (by decide +kernel)⟩
theorem lw_p94 : lw_okq (⟨"LongBoatsModel", "tellsOf", "(IIZ)J"⟩, 39) := ⟨⟨by decide +kernel, by decide +kernel⟩, List.mem_of_getElem? (i := 1246) (by decide +kernel), List.mem_of_getElem? (i := 1857) (by decide +kernel), List.mem_of_getElem? (i := 1858) (by decide +kernel)⟩
theorem lw_p95 : lw_okq (⟨"LongBoatsModel", "edgeMen", "()I"⟩, 39) := ⟨⟨by decide +kernel, by decide +kernel⟩, List.mem_of_getElem? (i := 1246) (by decide +kernel), List.mem_of_getElem? (i := 1861) (by decide +kernel), List.mem_of_getElem? (i := 1862) (by decide +kernel)⟩
def lw_privs_6 : List (MethodName × Nat) := [(⟨"LongBoatsModel", "bestTo", "(I)I"⟩, 39), (⟨"LongBoatsModel", "isRest", "(II)Z"⟩, 39), (⟨"LongBoatsModel", "isVain", "(II)Z"⟩, 39), (⟨"LongBoatsModel", "areTeams", "(II)Z"⟩, 39), (⟨"LongBoatsModel", "playsAsTold", "(II)V"⟩, 39), (⟨"LongBoatsModel", "layRows", "(II)V"⟩, 39), (⟨"LongBoatsModel", "plays", "(IIZ)V"⟩, 39), (⟨"LongBoatsModel", "ofMatch", "(I)I"⟩, 39), (⟨"LongBoatsModel", "isIn", "(II)Z"⟩, 39), (⟨"LongBoatsModel", "ordersOf", "(II)V"⟩, 39), (⟨"LongBoatsModel", "worth", "()I"⟩, 39), (⟨"LongBoatsModel", "boldOf", "(II)V"⟩, 39), (⟨"LongBoatsModel", "beatenOrders", "(II)I"⟩, 39), (⟨"LongBoatsModel", "isHarbour", "()Z"⟩, 39), (⟨"LongBoatsModel", "tellsOf", "(IIZ)J"⟩, 39), (⟨"LongBoatsModel", "edgeMen", "()I"⟩, 39)]
theorem lw_r6 : ∀ q ∈ lw_privs_6, lw_okq q := List.forall_mem_cons.mpr ⟨lw_p80, List.forall_mem_cons.mpr ⟨lw_p81, List.forall_mem_cons.mpr ⟨lw_p82, List.forall_mem_cons.mpr ⟨lw_p83, List.forall_mem_cons.mpr ⟨lw_p84, List.forall_mem_cons.mpr ⟨lw_p85, List.forall_mem_cons.mpr ⟨lw_p86, List.forall_mem_cons.mpr ⟨lw_p87, List.forall_mem_cons.mpr ⟨lw_p88, List.forall_mem_cons.mpr ⟨lw_p89, List.forall_mem_cons.mpr ⟨lw_p90, List.forall_mem_cons.mpr ⟨lw_p91, List.forall_mem_cons.mpr ⟨lw_p92, List.forall_mem_cons.mpr ⟨lw_p93, List.forall_mem_cons.mpr ⟨lw_p94, List.forall_mem_cons.mpr ⟨lw_p95, fun _ h => absurd h List.not_mem_nil⟩⟩⟩⟩⟩⟩⟩⟩⟩⟩⟩⟩⟩⟩⟩⟩
theorem lw_p96 : lw_okq (⟨"LongBoatsModel", "asksPictures", "(IZ)I"⟩, 39) := ⟨⟨by decide +kernel, by decide +kernel⟩, List.mem_of_getElem? (i := 1246) (by decide +kernel), List.mem_of_getElem? (i := 1874) (by decide +kernel), List.mem_of_getElem? (i := 1875) (by decide +kernel)⟩
theorem lw_p97 : lw_okq (⟨"LongBoatsModel", "numberAt", "(II)J"⟩, 39) := ⟨⟨by decide +kernel, by decide +kernel⟩, List.mem_of_getElem? (i := 1246) (by decide +kernel), List.mem_of_getElem? (i := 1881) (by decide +kernel), List.mem_of_getElem? (i := 1882) (by decide +kernel)⟩
theorem lw_p98 : lw_okq (⟨"LongBoatsModel", "gapsOf", "(I)I"⟩, 39) := ⟨⟨by decide +kernel, by decide +kernel⟩, List.mem_of_getElem? (i := 1246) (by decide +kernel), List.mem_of_getElem? (i := 1885) (by decide +kernel), List.mem_of_getElem? (i := 1886) (by decide +kernel)⟩
theorem lw_p99 : lw_okq (⟨"LongBoatsModel", "isSo", "(III)Z"⟩, 39) := ⟨⟨by decide +kernel, by decide +kernel⟩, List.mem_of_getElem? (i := 1246) (by decide +kernel), List.mem_of_getElem? (i := 1889) (by decide +kernel), List.mem_of_getElem? (i := 1890) (by decide +kernel)⟩
theorem lw_p100 : lw_okq (⟨"LongBoatsModel", "firstPass", "(IIII)I"⟩, 39) := ⟨⟨by decide +kernel, by decide +kernel⟩, List.mem_of_getElem? (i := 1246) (by decide +kernel), List.mem_of_getElem? (i := 1914) (by decide +kernel), List.mem_of_getElem? (i := 1915) (by decide +kernel)⟩
theorem lw_p101 : lw_okq (⟨"LongBoatsModel", "hasOut", "(IIII)Z"⟩, 39) := ⟨⟨by decide +kernel, by decide +kernel⟩, List.mem_of_getElem? (i := 1246) (by decide +kernel), List.mem_of_getElem? (i := 1926) (by decide +kernel), List.mem_of_getElem? (i := 1927) (by decide +kernel)⟩
theorem lw_p102 : lw_okq (⟨"LongBoatsModel", "marginOf", "(IIIII)I"⟩, 39) := ⟨⟨by decide +kernel, by decide +kernel⟩, List.mem_of_getElem? (i := 1246) (by decide +kernel), List.mem_of_getElem? (i := 1934) (by decide +kernel), List.mem_of_getElem? (i := 1935) (by decide +kernel)⟩
theorem lw_p103 : lw_okq (⟨"LongBoatsModel", "goesDrawn", "(JIIII)V"⟩, 39) := ⟨⟨by decide +kernel, by decide +kernel⟩, List.mem_of_getElem? (i := 1246) (by decide +kernel), List.mem_of_getElem? (i := 1958) (by decide +kernel), List.mem_of_getElem? (i := 1959) (by decide +kernel)⟩
def lw_privs_7 : List (MethodName × Nat) := [(⟨"LongBoatsModel", "asksPictures", "(IZ)I"⟩, 39), (⟨"LongBoatsModel", "numberAt", "(II)J"⟩, 39), (⟨"LongBoatsModel", "gapsOf", "(I)I"⟩, 39), (⟨"LongBoatsModel", "isSo", "(III)Z"⟩, 39), (⟨"LongBoatsModel", "firstPass", "(IIII)I"⟩, 39), (⟨"LongBoatsModel", "hasOut", "(IIII)Z"⟩, 39), (⟨"LongBoatsModel", "marginOf", "(IIIII)I"⟩, 39), (⟨"LongBoatsModel", "goesDrawn", "(JIIII)V"⟩, 39)]
theorem lw_r7 : ∀ q ∈ lw_privs_7, lw_okq q := List.forall_mem_cons.mpr ⟨lw_p96, List.forall_mem_cons.mpr ⟨lw_p97, List.forall_mem_cons.mpr ⟨lw_p98, List.forall_mem_cons.mpr ⟨lw_p99, List.forall_mem_cons.mpr ⟨lw_p100, List.forall_mem_cons.mpr ⟨lw_p101, List.forall_mem_cons.mpr ⟨lw_p102, List.forall_mem_cons.mpr ⟨lw_p103, fun _ h => absurd h List.not_mem_nil⟩⟩⟩⟩⟩⟩⟩⟩
def lw_privs : List (MethodName × Nat) := lw_privs_1 ++ (lw_privs_2 ++ (lw_privs_3 ++ (lw_privs_4 ++ (lw_privs_5 ++ (lw_privs_6 ++ (lw_privs_7))))))
def lw_tbl : List Cond := k2_sels lw_privs ++ tables_1
theorem lw_privs_ok : ∀ q ∈ lw_privs, lw_okq q := by
  show ∀ q ∈ lw_privs_1 ++ (lw_privs_2 ++ (lw_privs_3 ++ (lw_privs_4 ++ (lw_privs_5 ++ (lw_privs_6 ++ (lw_privs_7)))))), lw_okq q
  exact List.forall_mem_append.mpr ⟨lw_r1, List.forall_mem_append.mpr ⟨lw_r2, List.forall_mem_append.mpr ⟨lw_r3, List.forall_mem_append.mpr ⟨lw_r4, List.forall_mem_append.mpr ⟨lw_r5, List.forall_mem_append.mpr ⟨lw_r6, lw_r7⟩⟩⟩⟩⟩⟩
end
section
/-! THE TABLES (printed by gen_tables.py out of the Statement and the listing): classes, kinds of cells, constants, resolved code. -/
def zR0 : String := "LongBoats$Contest"
def zT0 : u_T := fun k => match k with
  | 0 => ("LongBoats$Contest", "harbour", "LLongBoats$Harbour;", true)
  | 1 => ("LongBoats$Contest", "duel", "LLongBoats$Duel;", true)
  | 2 => ("LongBoats$Contest", "firsts", "LLongBoats$Row;", true)
  | 3 => ("LongBoats$Contest", "seconds", "LLongBoats$Row;", true)
  | 4 => ("LongBoats$Contest", "log", "LLongBoats$Row;", true)
  | 5 => ("LongBoats$Contest", "sizeOne", "I", false)
  | 6 => ("LongBoats$Contest", "sizeTwo", "I", false)
  | 7 => ("LongBoats$Contest", "leftOne", "I", false)
  | 8 => ("LongBoats$Contest", "leftTwo", "I", false)
  | 9 => ("LongBoats$Contest", "had", "LLongBoats$Row;", true)
  | 10 => ("LongBoats$Contest", "found", "LLongBoats$Row;", true)
  | _ => ("LongBoats$Contest", "bouts", "I", false)
def zY0 : Nat → FieldType := fun k => match k with
  | 0 => .object "LongBoats$Harbour"
  | 1 => .object "LongBoats$Duel"
  | 2 => .object "LongBoats$Row"
  | 3 => .object "LongBoats$Row"
  | 4 => .object "LongBoats$Row"
  | 5 => .int
  | 6 => .int
  | 7 => .int
  | 8 => .int
  | 9 => .object "LongBoats$Row"
  | 10 => .object "LongBoats$Row"
  | _ => .int
def zR1 : String := "LongBoats$Draws"
def zT1 : u_T := fun k => match k with
  | _ => ("LongBoats$Draws", "x", "J", false)
def zY1 : Nat → FieldType := fun k => match k with
  | _ => .long
def zR2 : String := "LongBoats$Duel"
def zT2 : u_T := fun k => match k with
  | 0 => ("LongBoats$Duel", "one", "LLongBoats$Fighter;", true)
  | 1 => ("LongBoats$Duel", "two", "LLongBoats$Fighter;", true)
  | 2 => ("LongBoats$Duel", "pairs", "LLongBoats$Row;", true)
  | 3 => ("LongBoats$Duel", "draws", "LLongBoats$Draws;", true)
  | 4 => ("LongBoats$Duel", "drawing", "Z", false)
  | 5 => ("LongBoats$Duel", "slipOne", "I", false)
  | 6 => ("LongBoats$Duel", "slipTwo", "I", false)
  | 7 => ("LongBoats$Duel", "from", "I", false)
  | 8 => ("LongBoats$Duel", "to", "I", false)
  | 9 => ("LongBoats$Duel", "speed", "I", false)
  | 10 => ("LongBoats$Duel", "gap", "I", false)
  | 11 => ("LongBoats$Duel", "limit", "I", false)
  | 12 => ("LongBoats$Duel", "result", "I", false)
  | 13 => ("LongBoats$Duel", "took", "I", false)
  | _ => ("LongBoats$Duel", "crashes", "I", false)
def zY2 : Nat → FieldType := fun k => match k with
  | 0 => .object "LongBoats$Fighter"
  | 1 => .object "LongBoats$Fighter"
  | 2 => .object "LongBoats$Row"
  | 3 => .object "LongBoats$Draws"
  | 4 => .boolean
  | 5 => .int
  | 6 => .int
  | 7 => .int
  | 8 => .int
  | 9 => .int
  | 10 => .int
  | 11 => .int
  | 12 => .int
  | 13 => .int
  | _ => .int
def zR3 : String := "LongBoats$Fighter"
def zT3 : u_T := fun k => match k with
  | 0 => ("LongBoats$Fighter", "weight", "I", false)
  | 1 => ("LongBoats$Fighter", "skill", "I", false)
  | 2 => ("LongBoats$Fighter", "quick", "I", false)
  | 3 => ("LongBoats$Fighter", "tires", "I", false)
  | 4 => ("LongBoats$Fighter", "leans", "I", false)
  | _ => ("LongBoats$Fighter", "aims", "I", false)
def zY3 : Nat → FieldType := fun k => match k with
  | 0 => .int
  | 1 => .int
  | 2 => .int
  | 3 => .int
  | 4 => .int
  | _ => .int
def zR4 : String := "LongBoats$Grid"
def zT4 : u_T := fun k => match k with
  | _ => ("LongBoats$Grid", "gains", "LLongBoats$Row;", true)
def zY4 : Nat → FieldType := fun k => match k with
  | _ => .object "LongBoats$Row"
def zR5 : String := "LongBoats$Harbour"
def zT5 : u_T := fun k => match k with
  | 0 => ("LongBoats$Harbour", "lines", "I", false)
  | 1 => ("LongBoats$Harbour", "stream", "I", false)
  | 2 => ("LongBoats$Harbour", "gap", "I", false)
  | 3 => ("LongBoats$Harbour", "passes", "I", false)
  | 4 => ("LongBoats$Harbour", "from", "I", false)
  | 5 => ("LongBoats$Harbour", "to", "I", false)
  | 6 => ("LongBoats$Harbour", "errs", "I", false)
  | 7 => ("LongBoats$Harbour", "boats", "I", false)
  | 8 => ("LongBoats$Harbour", "men", "I", false)
  | 9 => ("LongBoats$Harbour", "teams", "I", false)
  | 10 => ("LongBoats$Harbour", "gears", "LLongBoats$Row;", true)
  | 11 => ("LongBoats$Harbour", "traits", "LLongBoats$Row;", true)
  | _ => ("LongBoats$Harbour", "crews", "LLongBoats$Row;", true)
def zY5 : Nat → FieldType := fun k => match k with
  | 0 => .int
  | 1 => .int
  | 2 => .int
  | 3 => .int
  | 4 => .int
  | 5 => .int
  | 6 => .int
  | 7 => .int
  | 8 => .int
  | 9 => .int
  | 10 => .object "LongBoats$Row"
  | 11 => .object "LongBoats$Row"
  | _ => .object "LongBoats$Row"
def zR6 : String := "LongBoats$Reader"
def zT6 : u_T := fun k => match k with
  | 0 => ("LongBoats$Reader", "tape", "LLongBoats$Tape;", true)
  | 1 => ("LongBoats$Reader", "draft", "LLongBoats$Harbour;", true)
  | 2 => ("LongBoats$Reader", "at", "I", false)
  | 3 => ("LongBoats$Reader", "kind", "I", false)
  | 4 => ("LongBoats$Reader", "start", "I", false)
  | 5 => ("LongBoats$Reader", "value", "I", false)
  | 6 => ("LongBoats$Reader", "fault", "I", false)
  | _ => ("LongBoats$Reader", "place", "I", false)
def zY6 : Nat → FieldType := fun k => match k with
  | 0 => .object "LongBoats$Tape"
  | 1 => .object "LongBoats$Harbour"
  | 2 => .int
  | 3 => .int
  | 4 => .int
  | 5 => .int
  | 6 => .int
  | _ => .int
def zR7 : String := "LongBoats$Row"
def zT7 : u_T := fun k => match k with
  | _ => ("LongBoats$Row", "cells", "[I", true)
def zY7 : Nat → FieldType := fun k => match k with
  | _ => .array .int
def zR8 : String := "LongBoats$Shelf"
def zT8 : u_T := fun k => match k with
  | 0 => ("LongBoats$Shelf", "cells", "[J", true)
  | 1 => ("LongBoats$Shelf", "widths", "LLongBoats$Row;", true)
  | _ => ("LongBoats$Shelf", "sizes", "LLongBoats$Row;", true)
def zY8 : Nat → FieldType := fun k => match k with
  | 0 => .array .long
  | 1 => .object "LongBoats$Row"
  | _ => .object "LongBoats$Row"
def zR9 : String := "LongBoats$Tape"
def zT9 : u_T := fun k => match k with
  | 0 => ("LongBoats$Tape", "bytes", "[B", true)
  | _ => ("LongBoats$Tape", "used", "I", false)
def zY9 : Nat → FieldType := fun k => match k with
  | 0 => .array .byte
  | _ => .int
def zR10 : String := "LongBoats"
def zT10 : u_T := fun k => match k with
  | 0 => ("LongBoats", "tape", "LLongBoats$Tape;", true)
  | 1 => ("LongBoats", "reader", "LLongBoats$Reader;", true)
  | 2 => ("LongBoats", "now", "LLongBoats$Harbour;", true)
  | 3 => ("LongBoats", "draft", "LLongBoats$Harbour;", true)
  | 4 => ("LongBoats", "images", "[LLongBoats$Harbour;", true)
  | 5 => ("LongBoats", "shelf", "LLongBoats$Shelf;", true)
  | 6 => ("LongBoats", "duel", "LLongBoats$Duel;", true)
  | 7 => ("LongBoats", "contest", "LLongBoats$Contest;", true)
  | _ => ("LongBoats", "grid", "LLongBoats$Grid;", true)
def zY10 : Nat → FieldType := fun k => match k with
  | 0 => .object "LongBoats$Tape"
  | 1 => .object "LongBoats$Reader"
  | 2 => .object "LongBoats$Harbour"
  | 3 => .object "LongBoats$Harbour"
  | 4 => .array (.object "LongBoats$Harbour")
  | 5 => .object "LongBoats$Shelf"
  | 6 => .object "LongBoats$Duel"
  | 7 => .object "LongBoats$Contest"
  | _ => .object "LongBoats$Grid"
def zR11 : String := "LongBoatsModel"
def zT11 : u_T := fun k => match k with
  | 0 => ("LongBoatsModel", "thrown", "I", false)
  | 1 => ("LongBoatsModel", "world", "[I", true)
  | 2 => ("LongBoatsModel", "images", "[I", true)
  | 3 => ("LongBoatsModel", "hasImage", "[Z", true)
  | 4 => ("LongBoatsModel", "tape", "[B", true)
  | 5 => ("LongBoatsModel", "taped", "I", false)
  | 6 => ("LongBoatsModel", "five", "[I", true)
  | 7 => ("LongBoatsModel", "size", "I", false)
  | 8 => ("LongBoatsModel", "at", "I", false)
  | 9 => ("LongBoatsModel", "from", "I", false)
  | 10 => ("LongBoatsModel", "token", "I", false)
  | 11 => ("LongBoatsModel", "value", "I", false)
  | 12 => ("LongBoatsModel", "faultKind", "I", false)
  | 13 => ("LongBoatsModel", "faultPlace", "I", false)
  | 14 => ("LongBoatsModel", "fresh", "[I", true)
  | 15 => ("LongBoatsModel", "boutResult", "I", false)
  | 16 => ("LongBoatsModel", "boutPasses", "I", false)
  | 17 => ("LongBoatsModel", "crashes", "I", false)
  | 18 => ("LongBoatsModel", "drawn", "J", false)
  | 19 => ("LongBoatsModel", "games", "[I", true)
  | 20 => ("LongBoatsModel", "firstRow", "[I", true)
  | 21 => ("LongBoatsModel", "secondRow", "[I", true)
  | 22 => ("LongBoatsModel", "firstMany", "I", false)
  | 23 => ("LongBoatsModel", "secondMany", "I", false)
  | 24 => ("LongBoatsModel", "passesOf", "[I", true)
  | 25 => ("LongBoatsModel", "boutFirst", "[I", true)
  | 26 => ("LongBoatsModel", "boutSecond", "[I", true)
  | 27 => ("LongBoatsModel", "boutEnds", "[I", true)
  | 28 => ("LongBoatsModel", "boutLong", "[I", true)
  | 29 => ("LongBoatsModel", "bouts", "I", false)
  | 30 => ("LongBoatsModel", "winner", "I", false)
  | 31 => ("LongBoatsModel", "left", "I", false)
  | 32 => ("LongBoatsModel", "bestRow", "[I", true)
  | 33 => ("LongBoatsModel", "bestWorth", "I", false)
  | 34 => ("LongBoatsModel", "winning", "I", false)
  | 35 => ("LongBoatsModel", "many", "[I", true)
  | 36 => ("LongBoatsModel", "width", "[I", true)
  | 37 => ("LongBoatsModel", "numbers", "[J", true)
  | _ => ("LongBoatsModel", "moving", "[J", true)
def zY11 : Nat → FieldType := fun k => match k with
  | 0 => .int
  | 1 => .array .int
  | 2 => .array .int
  | 3 => .array .boolean
  | 4 => .array .byte
  | 5 => .int
  | 6 => .array .int
  | 7 => .int
  | 8 => .int
  | 9 => .int
  | 10 => .int
  | 11 => .int
  | 12 => .int
  | 13 => .int
  | 14 => .array .int
  | 15 => .int
  | 16 => .int
  | 17 => .int
  | 18 => .long
  | 19 => .array .int
  | 20 => .array .int
  | 21 => .array .int
  | 22 => .int
  | 23 => .int
  | 24 => .array .int
  | 25 => .array .int
  | 26 => .array .int
  | 27 => .array .int
  | 28 => .array .int
  | 29 => .int
  | 30 => .int
  | 31 => .int
  | 32 => .array .int
  | 33 => .int
  | 34 => .int
  | 35 => .array .int
  | 36 => .array .int
  | 37 => .array .long
  | _ => .array .long
def zC : List vw_C := [(zR0, zT0, 12), (zR1, zT1, 1), (zR2, zT2, 15), (zR3, zT3, 6), (zR4, zT4, 1), (zR5, zT5, 13), (zR6, zT6, 8), (zR7, zT7, 1), (zR8, zT8, 3), (zR9, zT9, 2), (zR10, zT10, 9), (zR11, zT11, 39)]
/-- kinds of fields: 0 int, 1 long, 2 a ref, 3 boolean -/
def zFK : List (List Nat) := [[2, 2, 2, 2, 2, 0, 0, 0, 0, 2, 2, 0], [1], [2, 2, 2, 2, 3, 0, 0, 0, 0, 0, 0, 0, 0, 0, 0], [0, 0, 0, 0, 0, 0], [2], [0, 0, 0, 0, 0, 0, 0, 0, 0, 0, 2, 2, 2], [2, 2, 0, 0, 0, 0, 0, 0], [2], [2, 2, 2], [2, 0], [2, 2, 2, 2, 2, 2, 2, 2, 2], [0, 2, 2, 2, 2, 0, 2, 0, 0, 0, 0, 0, 0, 0, 2, 0, 0, 0, 1, 2, 2, 2, 0, 0, 2, 2, 2, 2, 2, 0, 0, 0, 2, 0, 0, 2, 2, 2, 2]]
def z_nm : Nat := 343
def z_hc : Nat := 5
def z_tks : List Nat := [0, 0, 2, 0, 0, 1, 0, 1, 0, 1, 0, 0, 1, 0, 1, 0, 1, 0, 5, 0, 4, 0, 1, 0, 1, 0, 0, 0, 0, 1, 0, 0, 0, 1, 0, 1, 0, 1, 0, 1, 0, 1, 0, 0, 1, 0, 1, 1, 3, 2, 1, 1, 1, 1, 1, 1, 1, 1, 1, 1, 1, 1, 1, 4, 4, 0, 0, 1, 0, 1, 0, 1, 0, 0, 1, 0, 1, 0, 1, 0, 0, 1, 0, 1, 0, 1]
def z_tns : List Nat := [10, 9, 1200, 5, 7, 8, 7, 60, 7, 28, 5, 7, 8, 7, 60, 7, 28, 6, 3, 8, 240, 7, 4, 7, 4, 2, 3, 3, 7, 3, 1, 0, 7, 5, 7, 5, 7, 40, 7, 10, 7, 5, 4, 7, 100, 11, 106, 318, 3, 1200, 5, 106, 100, 5, 5, 10, 10, 10, 10, 10, 5, 4, 4, 240, 60, 5, 7, 8, 7, 60, 7, 28, 5, 7, 8, 7, 60, 7, 28, 5, 7, 8, 7, 60, 7, 28]
def z_tk (k : Nat) : Nat := z_tks.getD k 9
def z_tn (k : Nat) : Nat := z_tns.getD k 0
/-- where the cells' refs go, once all are made -/
def z_rt : List (List (Option Nat)) := [[some 1, some 17, some 3, some 10, some 18, some 19, some 25, some 31, some 42], [some 2], [], [none, none, none, none, none, none, none, none, none, none, some 4, some 6, some 8], [some 5], [], [some 7], [], [some 9], [], [none, none, none, none, none, none, none, none, none, none, some 11, some 13, some 15], [some 12], [], [some 14], [], [some 16], [], [some 1, some 10], [], [some 20, some 21, some 23], [], [some 22], [], [some 24], [], [some 26, some 27, some 28, some 30], [], [], [some 29], [], [], [some 3, some 25, some 32, some 34, some 36, none, none, none, none, some 38, some 40], [some 33], [], [some 35], [], [some 37], [], [some 39], [], [some 41], [], [some 43], [some 44], [], [none, some 46, some 47, some 48, some 49, none, some 50, none, none, none, none, none, none, none, some 51, none, none, none, none, some 52, some 53, some 54, none, none, some 55, some 56, some 57, some 58, some 59, none, none, none, some 60, none, none, some 61, some 62, some 63, some 64], [], [], [], [], [], [], [], [], [], [], [], [], [], [], [], [], [], [], [], [none, none, none, none, none, none, none, none, none, none, some 66, some 68, some 70], [some 67], [], [some 69], [], [some 71], [], [none, none, none, none, none, none, none, none, none, none, some 73, some 75, some 77], [some 74], [], [some 76], [], [some 78], [], [none, none, none, none, none, none, none, none, none, none, some 80, some 82, some 84], [some 81], [], [some 83], [], [some 85], []]
def z_im : Nat := 18
def z_r (im : Nat → Option Nat) (k f : Nat) : Option Nat := cond (k.beq 18) (im f) ((z_rt.getD k []).getD f none)
def z_kls : List Int64 := [0, 1, (-2), (-1), 3, 2, 97, 122, 48, 57, 5, 99, 20, 1103515245, 12345, 2147483648, 65536, 12, 100, 9, 40, 200, 30, 4, 7, 50, 999, 2000000000, 2147483647, 4294967295]
def z_kl (k : Nat) : Int64 := z_kls.getD k 0
def z_txs : List (List Int32) := [[], [119, 101, 105, 103, 104, 116], [115, 107, 105, 108, 108], [113, 117, 105, 99, 107], [116, 105, 114, 101, 115], [108, 101, 97, 110, 115], [97, 105, 109, 115], [109, 105, 100, 100, 108, 101], [99, 111, 114, 110, 101, 114], [101, 100, 103, 101], [116, 111], [114, 101, 97, 99, 104], [98, 111, 97, 116], [109, 97, 110], [116, 101, 97, 109], [101, 114, 114, 115], [111, 97, 114, 115], [115, 108, 105, 112], [104, 97, 114, 98, 111, 117, 114], [115, 116, 114, 101, 97, 109], [103, 97, 112], [112, 97, 115, 115, 101, 115], [114, 101, 97, 99, 104], [98, 111, 97, 116], [109, 97, 110], [116, 101, 97, 109], [101, 114, 114, 115], [104, 97, 114, 98, 111, 117, 114], [115, 116, 114, 101, 97, 109], [103, 97, 112], [112, 97, 115, 115, 101, 115], [116, 111], [111, 97, 114, 115], [115, 108, 105, 112], [119, 101, 105, 103, 104, 116], [115, 107, 105, 108, 108], [113, 117, 105, 99, 107], [116, 105, 114, 101, 115], [108, 101, 97, 110, 115], [97, 105, 109, 115], [99, 111, 114, 110, 101, 114], [101, 100, 103, 101], [109, 105, 100, 100, 108, 101]]
def z_tx (k : Nat) : List Int32 := z_txs.getD k []
abbrev k_LongBoats_init : Nat := 0
def cd_LongBoats_init : List (Nat × Nat × Instr) := [(0, 0, .aload 0), (1, 127, .pop2), (4, 0, .aload 0), (5, 130, .new 9), (8, 0, .dup), (9, 132, .invokespecial 597572), (12, 451, .putfield 40962), (15, 0, .aload 0), (16, 144, .new 5), (19, 0, .dup), (20, 146, .invokespecial 337604), (23, 453, .putfield 40970), (26, 0, .aload 0), (27, 144, .new 5), (30, 0, .dup), (31, 146, .invokespecial 337604), (34, 454, .putfield 40974), (37, 0, .aload 0), (38, 225, .new 6), (41, 0, .dup), (42, 0, .aload 0), (43, 451, .getfield 40962), (46, 0, .aload 0), (47, 454, .getfield 40974), (50, 227, .invokespecial 403212), (53, 452, .putfield 40966), (56, 0, .aload 0), (57, 0, .iconst 3), (58, 144, .anewarray 5), (61, 455, .putfield 40978), (64, 0, .aload 0), (65, 259, .new 8), (68, 0, .dup), (69, 261, .invokespecial 532804), (72, 456, .putfield 40982), (75, 0, .aload 0), (76, 282, .new 2), (79, 0, .dup), (80, 284, .invokespecial 143748), (83, 457, .putfield 40986), (86, 0, .aload 0), (87, 391, .new 0), (90, 0, .dup), (91, 0, .aload 0), (92, 453, .getfield 40970), (95, 0, .aload 0), (96, 457, .getfield 40986), (99, 393, .invokespecial 14476), (102, 458, .putfield 40990), (105, 0, .aload 0), (106, 439, .new 4), (109, 0, .dup), (110, 441, .invokespecial 272964), (113, 459, .putfield 40994), (116, 0, .return_)]
abbrev k_LongBoats_feed : Nat := 1
def cd_LongBoats_feed : List (Nat × Nat × Instr) := [(0, 0, .aload 0), (1, 451, .getfield 40962), (4, 483, .invokevirtual 597701), (7, 0, .ifCond .eq 6), (10, 0, .iconst (-1)), (11, 0, .ireturn), (12, 0, .aload 0), (13, 451, .getfield 40962), (16, 0, .iload 1), (17, 487, .invokevirtual 597896), (20, 0, .aload 0), (21, 451, .getfield 40962), (24, 0, .iload 2), (25, 487, .invokevirtual 597896), (28, 0, .aload 0), (29, 451, .getfield 40962), (32, 0, .iload 3), (33, 487, .invokevirtual 597896), (36, 0, .aload 0), (37, 451, .getfield 40962), (40, 0, .iload 4), (42, 487, .invokevirtual 597896), (45, 0, .aload 0), (46, 451, .getfield 40962), (49, 0, .iload 5), (51, 487, .invokevirtual 597896), (54, 0, .aload 0), (55, 451, .getfield 40962), (58, 491, .invokevirtual 597637), (61, 0, .ireturn)]
abbrev k_LongBoats_end : Nat := 2
def cd_LongBoats_end : List (Nat × Nat × Instr) := [(0, 0, .iload 1), (1, 0, .iconst 0), (2, 0, .aload 0), (3, 451, .getfield 40962), (6, 491, .invokevirtual 597637), (9, 499, .invokestatic 4109), (12, 0, .ifCond .ne 9), (15, 0, .iconst (-1)), (16, 0, .ireturn), (17, 0, .aload 0), (18, 451, .getfield 40962), (21, 0, .iload 1), (22, 502, .invokevirtual 597768), (25, 0, .iload 1), (26, 0, .ireturn)]
abbrev k_LongBoats_harbour : Nat := 3
def cd_LongBoats_harbour : List (Nat × Nat × Instr) := [(0, 0, .aload 0), (1, 452, .getfield 40966), (4, 510, .invokevirtual 403269), (7, 0, .istore 1), (8, 0, .aload 0), (9, 451, .getfield 40962), (12, 0, .iconst 0), (13, 502, .invokevirtual 597768), (16, 0, .iload 1), (17, 0, .ifCond .ne 12), (20, 0, .iconst (-4)), (22, 0, .ireturn), (23, 0, .aload 0), (24, 453, .getfield 40970), (27, 0, .aload 0), (28, 454, .getfield 40974), (31, 718, .invokevirtual 337736), (34, 0, .aload 0), (35, 453, .getfield 40970), (38, 163, .getfield 20480), (41, 0, .ireturn)]
abbrev k_LongBoats_fault : Nat := 4
def cd_LongBoats_fault : List (Nat × Nat × Instr) := [(0, 0, .iload 1), (1, 0, .ifCond .ne 6), (4, 0, .aload 0), (5, 452, .getfield 40966), (8, 238, .getfield 24600), (11, 0, .ireturn), (12, 0, .iload 1), (13, 0, .iconst 1), (14, 0, .if_icmp .ne 13), (17, 0, .aload 0), (18, 452, .getfield 40966), (21, 240, .getfield 24604), (24, 0, .goto 14), (27, 0, .iconst (-1)), (28, 0, .ireturn)]
abbrev k_LongBoats_man : Nat := 5
def cd_LongBoats_man : List (Nat × Nat × Instr) := [(0, 0, .aload 0), (1, 453, .getfield 40970), (4, 0, .iload 1), (5, 735, .invokevirtual 337929), (8, 0, .ifCond .eq 16), (11, 0, .iload 2), (12, 0, .iconst 0), (13, 0, .iconst 5), (14, 499, .invokestatic 4109), (17, 0, .ifCond .eq 16), (20, 0, .aload 0), (21, 453, .getfield 40970), (24, 0, .iload 1), (25, 0, .iload 2), (26, 736, .invokevirtual 338253), (29, 0, .goto 17), (32, 0, .iconst (-2)), (34, 0, .ireturn)]
abbrev k_LongBoats_boat : Nat := 6
def cd_LongBoats_boat : List (Nat × Nat × Instr) := [(0, 0, .aload 0), (1, 453, .getfield 40970), (4, 0, .iload 1), (5, 744, .invokevirtual 337801), (8, 0, .ifCond .eq 16), (11, 0, .iload 2), (12, 0, .iconst 0), (13, 0, .iconst 1), (14, 499, .invokestatic 4109), (17, 0, .ifCond .eq 16), (20, 0, .aload 0), (21, 453, .getfield 40970), (24, 0, .iload 1), (25, 0, .iload 2), (26, 748, .invokevirtual 338061), (29, 0, .goto 17), (32, 0, .iconst (-2)), (34, 0, .ireturn)]
abbrev k_LongBoats_team : Nat := 7
def cd_LongBoats_team : List (Nat × Nat × Instr) := [(0, 0, .aload 0), (1, 453, .getfield 40970), (4, 0, .iload 1), (5, 756, .invokevirtual 337993), (8, 0, .ifCond .ne 7), (11, 0, .iconst (-2)), (13, 0, .ireturn), (14, 0, .iload 2), (15, 0, .iconst (-1)), (16, 0, .if_icmp .ne 15), (19, 0, .aload 0), (20, 453, .getfield 40970), (23, 0, .iload 1), (24, 760, .invokevirtual 338633), (27, 0, .ireturn), (28, 0, .iload 2), (29, 0, .iconst (-2)), (31, 0, .if_icmp .ne 23), (34, 0, .aload 0), (35, 453, .getfield 40970), (38, 0, .iload 1), (39, 764, .invokevirtual 338761), (42, 0, .ireturn), (43, 0, .iload 2), (44, 0, .iconst 0), (45, 0, .aload 0), (46, 453, .getfield 40970), (49, 0, .iload 1), (50, 764, .invokevirtual 338761), (53, 0, .iconst 1), (54, 0, .isub), (55, 499, .invokestatic 4109), (58, 0, .ifCond .eq 39), (61, 0, .aload 0), (62, 453, .getfield 40970), (65, 0, .iload 1), (66, 0, .iload 2), (67, 765, .invokevirtual 338829), (70, 0, .goto 40), (73, 0, .iconst (-1)), (74, 0, .ireturn)]
abbrev k_LongBoats_speed : Nat := 8
def cd_LongBoats_speed : List (Nat × Nat × Instr) := [(0, 0, .aload 0), (1, 453, .getfield 40970), (4, 0, .iload 1), (5, 0, .iload 2), (6, 770, .invokevirtual 337869), (9, 0, .ifCond .eq 12), (12, 0, .aload 0), (13, 453, .getfield 40970), (16, 0, .iload 1), (17, 0, .iload 2), (18, 775, .invokevirtual 339085), (21, 0, .goto 13), (24, 0, .iconst (-2)), (26, 0, .ireturn)]
abbrev k_LongBoats_force : Nat := 9
def cd_LongBoats_force : List (Nat × Nat × Instr) := [(0, 0, .aload 0), (1, 453, .getfield 40970), (4, 0, .iload 1), (5, 735, .invokevirtual 337929), (8, 0, .ifCond .eq 16), (11, 0, .aload 0), (12, 453, .getfield 40970), (15, 0, .iload 2), (16, 0, .iload 3), (17, 770, .invokevirtual 337869), (20, 0, .ifCond .eq 16), (23, 0, .iload 4), (25, 0, .iconst 0), (26, 0, .iconst 99), (28, 499, .invokestatic 4109), (31, 0, .ifCond .ne 18), (34, 0, .iconst (-2)), (36, 0, .ireturn), (37, 0, .aload 0), (38, 457, .getfield 40986), (41, 0, .aload 0), (42, 453, .getfield 40970), (45, 0, .iload 2), (46, 0, .iload 3), (47, 787, .invokevirtual 143824), (50, 0, .aload 0), (51, 457, .getfield 40986), (54, 332, .getfield 8194), (57, 0, .aload 0), (58, 453, .getfield 40970), (61, 0, .iload 1), (62, 793, .invokevirtual 208716), (65, 0, .aload 0), (66, 457, .getfield 40986), (69, 332, .getfield 8194), (72, 0, .aload 0), (73, 457, .getfield 40986), (76, 346, .getfield 8228), (79, 0, .iload 4), (81, 798, .invokevirtual 208845), (84, 0, .ireturn)]
abbrev k_LongBoats_stands : Nat := 10
def cd_LongBoats_stands : List (Nat × Nat × Instr) := [(0, 0, .iload 5), (2, 0, .iconst 0), (3, 0, .iconst 99), (5, 499, .invokestatic 4109), (8, 0, .ifCond .eq 12), (11, 0, .aload 0), (12, 0, .iload 1), (13, 0, .iload 2), (14, 0, .iload 3), (15, 0, .iload 4), (17, 806, .invokevirtual 644245), (20, 0, .ifCond .ne 14), (23, 0, .iconst (-2)), (25, 0, .ireturn), (26, 0, .aload 0), (27, 457, .getfield 40986), (30, 332, .getfield 8194), (33, 0, .aload 0), (34, 457, .getfield 40986), (37, 346, .getfield 8228), (40, 0, .iload 5), (42, 0, .aload 0), (43, 457, .getfield 40986), (46, 336, .getfield 8198), (49, 303, .getfield 12308), (52, 810, .invokevirtual 208913), (55, 0, .ireturn)]
abbrev k_LongBoats_pass : Nat := 11
def cd_LongBoats_pass : List (Nat × Nat × Instr) := [(0, 0, .iload 5), (2, 0, .iconst 0), (3, 0, .iconst 99), (5, 499, .invokestatic 4109), (8, 0, .ifCond .eq 17), (11, 0, .iload 6), (13, 0, .iconst 0), (14, 0, .iconst 20), (16, 499, .invokestatic 4109), (19, 0, .ifCond .eq 17), (22, 0, .aload 0), (23, 0, .iload 1), (24, 0, .iload 2), (25, 0, .iload 3), (26, 0, .iload 4), (28, 806, .invokevirtual 644245), (31, 0, .ifCond .ne 19), (34, 0, .iconst (-2)), (36, 0, .ireturn), (37, 0, .aload 0), (38, 457, .getfield 40986), (41, 0, .aload 0), (42, 457, .getfield 40986), (45, 0, .iload 6), (47, 818, .invokevirtual 143945), (50, 0, .iload 5), (52, 0, .iload 5), (54, 822, .invokevirtual 144145), (57, 0, .ireturn)]
abbrev k_LongBoats_why : Nat := 12
def cd_LongBoats_why : List (Nat × Nat × Instr) := [(0, 0, .iload 5), (2, 0, .iconst 0), (3, 0, .iconst 99), (5, 499, .invokestatic 4109), (8, 0, .ifCond .eq 17), (11, 0, .iload 6), (13, 0, .iconst 0), (14, 0, .iconst 20), (16, 499, .invokestatic 4109), (19, 0, .ifCond .eq 17), (22, 0, .aload 0), (23, 0, .iload 1), (24, 0, .iload 2), (25, 0, .iload 3), (26, 0, .iload 4), (28, 806, .invokevirtual 644245), (31, 0, .ifCond .ne 19), (34, 0, .iconst (-2)), (36, 0, .ireturn), (37, 0, .aload 0), (38, 457, .getfield 40986), (41, 0, .aload 0), (42, 457, .getfield 40986), (45, 0, .iload 6), (47, 818, .invokevirtual 143945), (50, 0, .iload 5), (52, 0, .iload 5), (54, 836, .invokevirtual 144081), (57, 0, .ireturn)]
abbrev k_LongBoats_bout : Nat := 13
def cd_LongBoats_bout : List (Nat × Nat × Instr) := [(0, 0, .iload 5), (2, 0, .iconst 0), (3, 0, .iconst 1), (4, 499, .invokestatic 4109), (7, 0, .ifCond .eq 12), (10, 0, .aload 0), (11, 0, .iload 1), (12, 0, .iload 2), (13, 0, .iload 3), (14, 0, .iload 4), (16, 806, .invokevirtual 644245), (19, 0, .ifCond .ne 14), (22, 0, .iconst (-2)), (24, 0, .ireturn), (25, 0, .aload 0), (26, 457, .getfield 40986), (29, 0, .iconst 0), (30, 0, .iconst 0), (31, 844, .invokevirtual 144204), (34, 0, .iload 5), (36, 0, .ifCond .ne 25), (39, 0, .aload 0), (40, 457, .getfield 40986), (43, 354, .getfield 8240), (46, 0, .goto 27), (49, 0, .aload 0), (50, 862, .invokevirtual 644357), (53, 0, .ireturn)]
abbrev k_LongBoats_comes : Nat := 14
def cd_LongBoats_comes : List (Nat × Nat × Instr) := [(0, 0, .aload 0), (1, 453, .getfield 40970), (4, 0, .iload 1), (5, 0, .iload 2), (6, 770, .invokevirtual 337869), (9, 0, .ifCond .eq 21), (12, 0, .iload 3), (13, 0, .iconst 0), (14, 0, .iconst 12), (16, 499, .invokestatic 4109), (19, 0, .ifCond .eq 21), (22, 0, .iload 4), (24, 0, .iconst 0), (25, 0, .iconst 2), (26, 499, .invokestatic 4109), (29, 0, .ifCond .eq 21), (32, 0, .iload 5), (34, 0, .iconst 0), (35, 0, .iconst 1), (36, 499, .invokestatic 4109), (39, 0, .ifCond .ne 23), (42, 0, .iconst (-2)), (44, 0, .ireturn), (45, 0, .aload 0), (46, 457, .getfield 40986), (49, 0, .aload 0), (50, 453, .getfield 40970), (53, 0, .iload 1), (54, 0, .iload 2), (55, 787, .invokevirtual 143824), (58, 0, .aload 0), (59, 457, .getfield 40986), (62, 0, .iload 3), (63, 870, .invokevirtual 144392), (66, 0, .aload 0), (67, 457, .getfield 40986), (70, 338, .getfield 8202), (73, 0, .iload 4), (75, 877, .invokevirtual 468553), (78, 0, .i2l), (79, 0, .aload 0), (80, 457, .getfield 40986), (83, 878, .invokevirtual 144325), (86, 0, .i2l), (87, 0, .iload 5), (89, 882, .invokestatic 4878), (92, 0, .l2i), (93, 0, .ireturn)]
abbrev k_LongBoats_steer : Nat := 15
def cd_LongBoats_steer : List (Nat × Nat × Instr) := [(0, 0, .aload 0), (1, 453, .getfield 40970), (4, 0, .iload 1), (5, 0, .iload 2), (6, 770, .invokevirtual 337869), (9, 0, .ifCond .eq 16), (12, 0, .iload 3), (13, 0, .iconst 0), (14, 0, .iconst 100), (16, 499, .invokestatic 4109), (19, 0, .ifCond .eq 16), (22, 0, .iload 4), (24, 0, .iconst 1), (25, 0, .iconst 100), (27, 499, .invokestatic 4109), (30, 0, .ifCond .ne 18), (33, 0, .iconst (-2)), (35, 0, .ireturn), (36, 0, .aload 0), (37, 457, .getfield 40986), (40, 0, .aload 0), (41, 453, .getfield 40970), (44, 0, .iload 1), (45, 0, .iload 2), (46, 787, .invokevirtual 143824), (49, 0, .iconst (-1)), (50, 0, .istore 5), (52, 0, .iconst (-1)), (53, 0, .istore 6), (55, 0, .iconst 0), (56, 0, .istore 7), (58, 0, .nop), (58, 0, .iload 7), (60, 0, .iconst 12), (62, 0, .if_icmp .gt 75), (65, 0, .aload 0), (66, 457, .getfield 40986), (69, 0, .iload 7), (71, 870, .invokevirtual 144392), (74, 0, .aload 0), (75, 457, .getfield 40986), (78, 338, .getfield 8202), (81, 0, .iconst 0), (82, 877, .invokevirtual 468553), (85, 0, .iload 4), (87, 0, .imul), (88, 0, .iload 3), (89, 0, .aload 0), (90, 457, .getfield 40986), (93, 878, .invokevirtual 144325), (96, 0, .imul), (97, 0, .if_icmp .gt 54), (100, 0, .iconst 1), (101, 0, .goto 55), (104, 0, .iconst 0), (105, 0, .istore 8), (107, 0, .iload 8), (109, 0, .ifCond .eq 73), (112, 0, .aload 0), (113, 457, .getfield 40986), (116, 338, .getfield 8202), (119, 0, .iconst 1), (120, 877, .invokevirtual 468553), (123, 0, .iload 6), (125, 0, .if_icmp .le 73), (128, 0, .aload 0), (129, 457, .getfield 40986), (132, 338, .getfield 8202), (135, 0, .iconst 1), (136, 877, .invokevirtual 468553), (139, 0, .istore 6), (141, 0, .iload 7), (143, 0, .istore 5), (145, 0, .iinc 7 1), (148, 0, .goto 31), (151, 0, .iload 5), (153, 0, .ireturn)]
abbrev k_LongBoats_odds : Nat := 16
def cd_LongBoats_odds : List (Nat × Nat × Instr) := [(0, 0, .iload 5), (2, 0, .iconst 0), (3, 0, .iconst 3), (4, 499, .invokestatic 4109), (7, 0, .ifCond .eq 17), (10, 0, .iload 6), (12, 0, .iconst 0), (13, 0, .iconst 1), (14, 499, .invokestatic 4109), (17, 0, .ifCond .eq 17), (20, 0, .aload 0), (21, 0, .iload 1), (22, 0, .iload 2), (23, 0, .iload 3), (24, 0, .iload 4), (26, 806, .invokevirtual 644245), (29, 0, .ifCond .ne 19), (32, 0, .iconst (-2)), (34, 0, .ireturn), (35, 0, .aload 0), (36, 457, .getfield 40986), (39, 0, .aload 0), (40, 457, .getfield 40986), (43, 349, .getfield 8232), (46, 870, .invokevirtual 144392), (49, 0, .aload 0), (50, 457, .getfield 40986), (53, 0, .iload 5), (55, 0, .iconst 0), (56, 893, .invokevirtual 144461), (59, 0, .i2l), (60, 0, .aload 0), (61, 457, .getfield 40986), (64, 878, .invokevirtual 144325), (67, 0, .i2l), (68, 0, .iload 6), (70, 882, .invokestatic 4878), (73, 0, .l2i), (74, 0, .ireturn)]
abbrev k_LongBoats_ends : Nat := 17
def cd_LongBoats_ends : List (Nat × Nat × Instr) := [(0, 0, .iload 5), (2, 0, .iconst 0), (3, 0, .iconst 3), (4, 499, .invokestatic 4109), (7, 0, .ifCond .eq 17), (10, 0, .iload 6), (12, 0, .iconst 0), (13, 0, .iconst 1), (14, 499, .invokestatic 4109), (17, 0, .ifCond .eq 17), (20, 0, .aload 0), (21, 0, .iload 1), (22, 0, .iload 2), (23, 0, .iload 3), (24, 0, .iload 4), (26, 806, .invokevirtual 644245), (29, 0, .ifCond .ne 19), (32, 901, .ldc2_w 2), (35, 0, .lreturn), (36, 0, .aload 0), (37, 457, .getfield 40986), (40, 0, .aload 0), (41, 457, .getfield 40986), (44, 349, .getfield 8232), (47, 870, .invokevirtual 144392), (50, 0, .ldc2_w 0), (51, 0, .lstore 7), (53, 0, .ldc2_w 1), (54, 0, .lstore 9), (56, 0, .ldc2_w 1), (57, 0, .lstore 11), (59, 0, .iconst 0), (60, 0, .istore 13), (62, 0, .nop), (62, 0, .iload 13), (64, 0, .aload 0), (65, 457, .getfield 40986), (68, 351, .getfield 8236), (71, 0, .if_icmp .ge 73), (74, 0, .lload 7), (76, 0, .aload 0), (77, 457, .getfield 40986), (80, 878, .invokevirtual 144325), (83, 0, .i2l), (84, 0, .lmul), (85, 0, .lload 11), (87, 0, .aload 0), (88, 457, .getfield 40986), (91, 0, .iload 5), (93, 0, .iload 13), (95, 893, .invokevirtual 144461), (98, 0, .i2l), (99, 0, .lmul), (100, 0, .ladd), (101, 0, .lstore 7), (103, 0, .lload 9), (105, 0, .aload 0), (106, 457, .getfield 40986), (109, 878, .invokevirtual 144325), (112, 0, .i2l), (113, 0, .lmul), (114, 0, .lstore 9), (116, 0, .lload 11), (118, 0, .aload 0), (119, 457, .getfield 40986), (122, 0, .iconst 0), (123, 0, .iload 13), (125, 893, .invokevirtual 144461), (128, 0, .i2l), (129, 0, .lmul), (130, 0, .lstore 11), (132, 0, .iinc 13 1), (135, 0, .goto 33), (138, 0, .iload 5), (140, 0, .ifCond .ne 77), (143, 0, .lload 11), (145, 0, .goto 78), (148, 0, .lload 7), (150, 0, .lload 9), (152, 0, .iload 6), (154, 882, .invokestatic 4878), (157, 0, .lreturn)]
abbrev k_LongBoats_lasts : Nat := 18
def cd_LongBoats_lasts : List (Nat × Nat × Instr) := [(0, 0, .iload 5), (2, 0, .iconst 0), (3, 0, .iconst 1), (4, 499, .invokestatic 4109), (7, 0, .ifCond .eq 12), (10, 0, .aload 0), (11, 0, .iload 1), (12, 0, .iload 2), (13, 0, .iload 3), (14, 0, .iload 4), (16, 806, .invokevirtual 644245), (19, 0, .ifCond .ne 14), (22, 901, .ldc2_w 2), (25, 0, .lreturn), (26, 0, .aload 0), (27, 457, .getfield 40986), (30, 0, .aload 0), (31, 457, .getfield 40986), (34, 349, .getfield 8232), (37, 870, .invokevirtual 144392), (40, 0, .ldc2_w 1), (41, 0, .lstore 6), (43, 0, .ldc2_w 1), (44, 0, .lstore 8), (46, 0, .ldc2_w 1), (47, 0, .lstore 10), (49, 0, .iconst 0), (50, 0, .istore 12), (52, 0, .nop), (52, 0, .iload 12), (54, 0, .iconst 1), (55, 0, .iadd), (56, 0, .aload 0), (57, 457, .getfield 40986), (60, 351, .getfield 8236), (63, 0, .if_icmp .ge 63), (66, 0, .lload 10), (68, 0, .aload 0), (69, 457, .getfield 40986), (72, 0, .iconst 0), (73, 0, .iload 12), (75, 893, .invokevirtual 144461), (78, 0, .i2l), (79, 0, .lmul), (80, 0, .lstore 10), (82, 0, .lload 6), (84, 0, .aload 0), (85, 457, .getfield 40986), (88, 878, .invokevirtual 144325), (91, 0, .i2l), (92, 0, .lmul), (93, 0, .lload 10), (95, 0, .ladd), (96, 0, .lstore 6), (98, 0, .lload 8), (100, 0, .aload 0), (101, 457, .getfield 40986), (104, 878, .invokevirtual 144325), (107, 0, .i2l), (108, 0, .lmul), (109, 0, .lstore 8), (111, 0, .iinc 12 1), (114, 0, .goto 28), (117, 0, .lload 6), (119, 0, .lload 8), (121, 0, .iload 5), (123, 882, .invokestatic 4878), (126, 0, .lreturn)]
abbrev k_LongBoats_best : Nat := 19
def cd_LongBoats_best : List (Nat × Nat × Instr) := [(0, 0, .aload 0), (1, 0, .iload 1), (2, 0, .iload 2), (3, 0, .iload 3), (4, 0, .iload 4), (6, 806, .invokevirtual 644245), (9, 0, .ifCond .ne 9), (12, 0, .iconst (-2)), (14, 0, .ireturn), (15, 0, .aload 0), (16, 457, .getfield 40986), (19, 0, .aload 0), (20, 457, .getfield 40986), (23, 349, .getfield 8232), (26, 870, .invokevirtual 144392), (29, 0, .iconst 0), (30, 0, .istore 5), (32, 0, .aload 0), (33, 457, .getfield 40986), (36, 878, .invokevirtual 144325), (39, 0, .ineg), (40, 0, .iconst 1), (41, 0, .isub), (42, 0, .istore 6), (44, 0, .iconst 0), (45, 0, .istore 7), (47, 0, .nop), (47, 0, .iload 7), (49, 0, .iconst 10), (51, 0, .if_icmp .ge 48), (54, 0, .aload 0), (55, 457, .getfield 40986), (58, 332, .getfield 8194), (61, 0, .iload 7), (63, 910, .invokevirtual 208776), (66, 0, .aload 0), (67, 457, .getfield 40986), (70, 914, .invokevirtual 144581), (73, 0, .istore 8), (75, 0, .iload 8), (77, 0, .iload 6), (79, 0, .if_icmp .le 46), (82, 0, .iload 8), (84, 0, .istore 6), (86, 0, .iload 7), (88, 0, .istore 5), (90, 0, .iinc 7 1), (93, 0, .goto 26), (96, 0, .iload 5), (98, 0, .ireturn)]
abbrev k_LongBoats_oars : Nat := 20
def cd_LongBoats_oars : List (Nat × Nat × Instr) := [(0, 0, .aload 0), (1, 0, .iload 1), (2, 0, .iload 2), (3, 0, .iload 3), (4, 0, .iload 4), (6, 806, .invokevirtual 644245), (9, 0, .ifCond .ne 9), (12, 0, .iconst (-2)), (14, 0, .ireturn), (15, 0, .aload 0), (16, 457, .getfield 40986), (19, 0, .aload 0), (20, 457, .getfield 40986), (23, 349, .getfield 8232), (26, 870, .invokevirtual 144392), (29, 0, .iconst 2), (30, 0, .istore 5), (32, 0, .aload 0), (33, 457, .getfield 40986), (36, 878, .invokevirtual 144325), (39, 0, .ineg), (40, 0, .iconst 1), (41, 0, .isub), (42, 0, .istore 6), (44, 0, .iconst 2), (45, 0, .istore 7), (47, 0, .nop), (47, 0, .iload 7), (49, 0, .iconst 12), (51, 0, .if_icmp .gt 52), (54, 0, .aload 0), (55, 457, .getfield 40986), (58, 0, .aload 0), (59, 453, .getfield 40970), (62, 0, .iload 3), (63, 0, .iload 7), (65, 0, .iload 4), (67, 925, .invokevirtual 339153), (70, 346, .putfield 8228), (73, 0, .aload 0), (74, 457, .getfield 40986), (77, 914, .invokevirtual 144581), (80, 0, .istore 8), (82, 0, .iload 8), (84, 0, .iload 6), (86, 0, .if_icmp .le 50), (89, 0, .iload 8), (91, 0, .istore 6), (93, 0, .iload 7), (95, 0, .istore 5), (97, 0, .iinc 7 1), (100, 0, .goto 26), (103, 0, .iload 5), (105, 0, .ireturn)]
abbrev k_LongBoats_heavy : Nat := 21
def cd_LongBoats_heavy : List (Nat × Nat × Instr) := [(0, 0, .aload 0), (1, 0, .iload 1), (2, 0, .iload 2), (3, 0, .iload 3), (4, 0, .iload 4), (6, 806, .invokevirtual 644245), (9, 0, .ifCond .ne 9), (12, 0, .iconst (-2)), (14, 0, .ireturn), (15, 0, .iconst 40), (17, 0, .istore 5), (19, 0, .nop), (19, 0, .iload 5), (21, 0, .iconst 200), (24, 0, .if_icmp .gt 32), (27, 0, .aload 0), (28, 457, .getfield 40986), (31, 332, .getfield 8194), (34, 0, .iload 5), (36, 295, .putfield 12288), (39, 0, .aload 0), (40, 457, .getfield 40986), (43, 0, .iconst 1), (44, 0, .iconst 0), (45, 0, .iconst 0), (46, 836, .invokevirtual 144081), (49, 0, .iconst 3), (50, 0, .if_icmp .eq 30), (53, 0, .iload 5), (55, 0, .ireturn), (56, 0, .iinc 5 1), (59, 0, .goto 11), (62, 0, .iconst (-1)), (63, 0, .ireturn)]
abbrev k_LongBoats_even : Nat := 22
def cd_LongBoats_even : List (Nat × Nat × Instr) := [(0, 0, .iload 5), (2, 0, .iconst 0), (3, 0, .iconst 1), (4, 499, .invokestatic 4109), (7, 0, .ifCond .eq 12), (10, 0, .aload 0), (11, 0, .iload 1), (12, 0, .iload 2), (13, 0, .iload 3), (14, 0, .iload 4), (16, 806, .invokevirtual 644245), (19, 0, .ifCond .ne 14), (22, 0, .iconst (-2)), (24, 0, .ireturn), (25, 0, .aload 0), (26, 457, .getfield 40986), (29, 0, .aload 0), (30, 457, .getfield 40986), (33, 349, .getfield 8232), (36, 870, .invokevirtual 144392), (39, 0, .iconst 0), (40, 0, .istore 6), (42, 0, .iconst (-1)), (43, 0, .istore 7), (45, 0, .iconst 40), (47, 0, .istore 8), (49, 0, .nop), (49, 0, .iload 8), (51, 0, .iconst 200), (54, 0, .if_icmp .gt 49), (57, 0, .aload 0), (58, 457, .getfield 40986), (61, 332, .getfield 8194), (64, 0, .iload 8), (66, 295, .putfield 12288), (69, 0, .aload 0), (70, 457, .getfield 40986), (73, 914, .invokevirtual 144581), (76, 0, .ifCond .ne 47), (79, 0, .iinc 6 1), (82, 0, .iload 7), (84, 0, .iconst (-1)), (85, 0, .if_icmp .ne 45), (88, 0, .iload 8), (90, 0, .goto 46), (93, 0, .iload 7), (95, 0, .istore 7), (97, 0, .iinc 8 1), (100, 0, .goto 26), (103, 0, .iload 5), (105, 0, .ifCond .ne 53), (108, 0, .iload 6), (110, 0, .goto 54), (113, 0, .iload 7), (115, 0, .ireturn)]
abbrev k_LongBoats_game : Nat := 23
def cd_LongBoats_game : List (Nat × Nat × Instr) := [(0, 0, .iload 5), (2, 938, .invokestatic 4165), (5, 0, .ifCond .eq 13), (8, 0, .iload 6), (10, 938, .invokestatic 4165), (13, 0, .ifCond .eq 13), (16, 0, .aload 0), (17, 0, .iload 1), (18, 0, .iload 2), (19, 0, .iload 3), (20, 0, .iload 4), (22, 806, .invokevirtual 644245), (25, 0, .ifCond .ne 15), (28, 0, .iconst (-1000)), (31, 0, .ireturn), (32, 0, .aload 0), (33, 457, .getfield 40986), (36, 0, .aload 0), (37, 457, .getfield 40986), (40, 349, .getfield 8232), (43, 870, .invokevirtual 144392), (46, 0, .aload 0), (47, 457, .getfield 40986), (50, 332, .getfield 8194), (53, 0, .iload 5), (55, 910, .invokevirtual 208776), (58, 0, .aload 0), (59, 457, .getfield 40986), (62, 336, .getfield 8198), (65, 0, .iload 6), (67, 910, .invokevirtual 208776), (70, 0, .aload 0), (71, 457, .getfield 40986), (74, 914, .invokevirtual 144581), (77, 0, .ireturn)]
abbrev k_LongBoats_reply : Nat := 24
def cd_LongBoats_reply : List (Nat × Nat × Instr) := [(0, 0, .iload 5), (2, 938, .invokestatic 4165), (5, 0, .ifCond .eq 10), (8, 0, .aload 0), (9, 0, .iload 1), (10, 0, .iload 2), (11, 0, .iload 3), (12, 0, .iload 4), (14, 806, .invokevirtual 644245), (17, 0, .ifCond .ne 12), (20, 0, .iconst (-2)), (22, 0, .ireturn), (23, 0, .aload 0), (24, 459, .getfield 40994), (27, 0, .aload 0), (28, 457, .getfield 40986), (31, 945, .invokevirtual 273032), (34, 0, .aload 0), (35, 459, .getfield 40994), (38, 0, .iload 5), (40, 953, .invokevirtual 273161), (43, 0, .ireturn)]
abbrev k_LongBoats_safe : Nat := 25
def cd_LongBoats_safe : List (Nat × Nat × Instr) := [(0, 0, .iload 5), (2, 0, .iconst 0), (3, 0, .iconst 3), (4, 499, .invokestatic 4109), (7, 0, .ifCond .eq 12), (10, 0, .aload 0), (11, 0, .iload 1), (12, 0, .iload 2), (13, 0, .iload 3), (14, 0, .iload 4), (16, 806, .invokevirtual 644245), (19, 0, .ifCond .ne 14), (22, 0, .iconst (-1000)), (25, 0, .ireturn), (26, 0, .aload 0), (27, 459, .getfield 40994), (30, 0, .aload 0), (31, 457, .getfield 40986), (34, 945, .invokevirtual 273032), (37, 0, .iload 5), (39, 0, .iconst 1), (40, 0, .if_icmp .gt 39), (43, 0, .aload 0), (44, 459, .getfield 40994), (47, 966, .invokevirtual 273285), (50, 0, .istore 6), (52, 0, .iload 5), (54, 0, .ifCond .ne 30), (57, 0, .iload 6), (59, 0, .goto 38), (62, 0, .aload 0), (63, 459, .getfield 40994), (66, 0, .iload 6), (68, 0, .aload 0), (69, 459, .getfield 40994), (72, 0, .iload 6), (74, 953, .invokevirtual 273161), (77, 971, .invokevirtual 273101), (80, 0, .ireturn), (81, 0, .aload 0), (82, 459, .getfield 40994), (85, 972, .invokevirtual 273349), (88, 0, .istore 6), (90, 0, .iload 5), (92, 0, .iconst 2), (93, 0, .if_icmp .ne 48), (96, 0, .iload 6), (98, 0, .goto 56), (101, 0, .aload 0), (102, 459, .getfield 40994), (105, 0, .aload 0), (106, 459, .getfield 40994), (109, 0, .iload 6), (111, 980, .invokevirtual 273225), (114, 0, .iload 6), (116, 971, .invokevirtual 273101), (119, 0, .ireturn)]
abbrev k_LongBoats_rests : Nat := 26
def cd_LongBoats_rests : List (Nat × Nat × Instr) := [(0, 0, .aload 0), (1, 0, .iload 1), (2, 0, .iload 2), (3, 0, .iload 3), (4, 0, .iload 4), (6, 806, .invokevirtual 644245), (9, 0, .ifCond .ne 9), (12, 0, .iconst (-2)), (14, 0, .ireturn), (15, 0, .aload 0), (16, 459, .getfield 40994), (19, 0, .aload 0), (20, 457, .getfield 40986), (23, 945, .invokevirtual 273032), (26, 0, .iconst 0), (27, 0, .istore 5), (29, 0, .iconst 0), (30, 0, .istore 6), (32, 0, .nop), (32, 0, .iload 6), (34, 0, .iconst 100), (36, 0, .if_icmp .ge 40), (39, 0, .iload 5), (41, 0, .aload 0), (42, 459, .getfield 40994), (45, 0, .iload 6), (47, 0, .iconst 10), (49, 0, .idiv), (50, 0, .iload 6), (52, 0, .iconst 10), (54, 0, .irem), (55, 985, .invokevirtual 273421), (58, 0, .ifCond .eq 35), (61, 0, .iconst 1), (62, 0, .goto 36), (65, 0, .iconst 0), (66, 0, .iadd), (67, 0, .istore 5), (69, 0, .iinc 6 1), (72, 0, .goto 18), (75, 0, .iload 5), (77, 0, .ireturn)]
abbrev k_LongBoats_rest : Nat := 27
def cd_LongBoats_rest : List (Nat × Nat × Instr) := [(0, 0, .iload 5), (2, 0, .iconst 0), (3, 0, .iconst 1), (4, 499, .invokestatic 4109), (7, 0, .ifCond .eq 12), (10, 0, .aload 0), (11, 0, .iload 1), (12, 0, .iload 2), (13, 0, .iload 3), (14, 0, .iload 4), (16, 806, .invokevirtual 644245), (19, 0, .ifCond .ne 14), (22, 0, .iconst (-2)), (24, 0, .ireturn), (25, 0, .aload 0), (26, 459, .getfield 40994), (29, 0, .aload 0), (30, 457, .getfield 40986), (33, 945, .invokevirtual 273032), (36, 0, .iconst 0), (37, 0, .istore 6), (39, 0, .nop), (39, 0, .iload 6), (41, 0, .iconst 100), (43, 0, .if_icmp .ge 47), (46, 0, .aload 0), (47, 459, .getfield 40994), (50, 0, .iload 6), (52, 0, .iconst 10), (54, 0, .idiv), (55, 0, .iload 6), (57, 0, .iconst 10), (59, 0, .irem), (60, 985, .invokevirtual 273421), (63, 0, .ifCond .eq 45), (66, 0, .iload 5), (68, 0, .ifCond .ne 41), (71, 0, .iload 6), (73, 0, .iconst 10), (75, 0, .idiv), (76, 0, .goto 44), (79, 0, .iload 6), (81, 0, .iconst 10), (83, 0, .irem), (84, 0, .ireturn), (85, 0, .iinc 6 1), (88, 0, .goto 21), (91, 0, .iconst (-1)), (92, 0, .ireturn)]
abbrev k_LongBoats_vain : Nat := 28
def cd_LongBoats_vain : List (Nat × Nat × Instr) := [(0, 0, .aload 0), (1, 0, .iload 1), (2, 0, .iload 2), (3, 0, .iload 3), (4, 0, .iload 4), (6, 806, .invokevirtual 644245), (9, 0, .ifCond .ne 9), (12, 0, .iconst (-2)), (14, 0, .ireturn), (15, 0, .aload 0), (16, 459, .getfield 40994), (19, 0, .aload 0), (20, 457, .getfield 40986), (23, 945, .invokevirtual 273032), (26, 0, .iconst 0), (27, 0, .istore 5), (29, 0, .iconst 0), (30, 0, .istore 6), (32, 0, .nop), (32, 0, .iload 6), (34, 0, .iconst 10), (36, 0, .if_icmp .ge 37), (39, 0, .iload 5), (41, 0, .aload 0), (42, 459, .getfield 40994), (45, 0, .iload 6), (47, 997, .invokevirtual 273481), (50, 0, .ifCond .eq 32), (53, 0, .iconst 1), (54, 0, .iload 6), (56, 0, .ishl), (57, 0, .goto 33), (60, 0, .iconst 0), (61, 0, .ior), (62, 0, .istore 5), (64, 0, .iinc 6 1), (67, 0, .goto 18), (70, 0, .iload 5), (72, 0, .ireturn)]
abbrev k_LongBoats_match : Nat := 29
def cd_LongBoats_match : List (Nat × Nat × Instr) := [(0, 0, .iload 3), (1, 0, .iconst 0), (2, 0, .iconst 2), (3, 499, .invokestatic 4109), (6, 0, .ifCond .eq 10), (9, 0, .aload 0), (10, 0, .iload 1), (11, 0, .iload 2), (12, 1009, .invokevirtual 644301), (15, 0, .ifCond .ne 12), (18, 0, .iconst (-2)), (20, 0, .ireturn), (21, 0, .aload 0), (22, 458, .getfield 40990), (25, 1023, .invokevirtual 14660), (28, 0, .aload 0), (29, 458, .getfield 40990), (32, 0, .iload 3), (33, 1039, .invokevirtual 14985), (36, 0, .ireturn)]
abbrev k_LongBoats_passed : Nat := 30
def cd_LongBoats_passed : List (Nat × Nat × Instr) := [(0, 0, .aload 0), (1, 0, .iload 1), (2, 0, .iload 2), (3, 1009, .invokevirtual 644301), (6, 0, .ifCond .eq 17), (9, 0, .aload 0), (10, 453, .getfield 40970), (13, 0, .iload 1), (14, 0, .iload 3), (15, 1013, .invokevirtual 339021), (18, 0, .ifCond .ne 19), (21, 0, .aload 0), (22, 453, .getfield 40970), (25, 0, .iload 2), (26, 0, .iload 3), (27, 1013, .invokevirtual 339021), (30, 0, .ifCond .ne 19), (33, 0, .iconst (-2)), (35, 0, .ireturn), (36, 0, .aload 0), (37, 458, .getfield 40990), (40, 1023, .invokevirtual 14660), (43, 0, .aload 0), (44, 458, .getfield 40990), (47, 409, .getfield 38), (50, 0, .iload 3), (51, 877, .invokevirtual 468553), (54, 0, .ireturn)]
abbrev k_LongBoats_led : Nat := 31
def cd_LongBoats_led : List (Nat × Nat × Instr) := [(0, 0, .iload 4), (2, 0, .iconst 0), (3, 0, .iconst 3), (4, 499, .invokestatic 4109), (7, 0, .ifCond .eq 10), (10, 0, .aload 0), (11, 0, .iload 1), (12, 0, .iload 2), (13, 1009, .invokevirtual 644301), (16, 0, .ifCond .ne 12), (19, 0, .iconst (-2)), (21, 0, .ireturn), (22, 0, .aload 0), (23, 458, .getfield 40990), (26, 1023, .invokevirtual 14660), (29, 0, .iload 3), (30, 0, .iconst 0), (31, 0, .aload 0), (32, 458, .getfield 40990), (35, 413, .getfield 44), (38, 0, .iconst 1), (39, 0, .isub), (40, 499, .invokestatic 4109), (43, 0, .ifCond .eq 30), (46, 0, .aload 0), (47, 458, .getfield 40990), (50, 0, .iload 3), (51, 0, .iload 4), (53, 1058, .invokevirtual 14861), (56, 0, .goto 31), (59, 0, .iconst (-1)), (60, 0, .ireturn)]
abbrev k_LongBoats_wins : Nat := 32
def cd_LongBoats_wins : List (Nat × Nat × Instr) := [(0, 0, .aload 0), (1, 0, .iload 1), (2, 0, .iload 2), (3, 1009, .invokevirtual 644301), (6, 0, .ifCond .ne 7), (9, 0, .iconst (-2)), (11, 0, .ireturn), (12, 0, .aload 0), (13, 458, .getfield 40990), (16, 1066, .invokevirtual 15045), (19, 0, .ireturn)]
abbrev k_LongBoats_order : Nat := 33
def cd_LongBoats_order : List (Nat × Nat × Instr) := [(0, 0, .aload 0), (1, 0, .iload 1), (2, 0, .iload 2), (3, 1009, .invokevirtual 644301), (6, 0, .ifCond .ne 7), (9, 0, .iconst (-2)), (11, 0, .ireturn), (12, 0, .iload 3), (13, 0, .iconst 0), (14, 0, .aload 0), (15, 453, .getfield 40970), (18, 0, .iload 1), (19, 764, .invokevirtual 338761), (22, 0, .iconst 1), (23, 0, .isub), (24, 499, .invokestatic 4109), (27, 0, .ifCond .ne 19), (30, 0, .iconst (-1)), (31, 0, .ireturn), (32, 0, .aload 0), (33, 458, .getfield 40990), (36, 1087, .invokevirtual 15108), (39, 0, .aload 0), (40, 458, .getfield 40990), (43, 411, .getfield 42), (46, 0, .iload 3), (47, 877, .invokevirtual 468553), (50, 0, .ireturn)]
abbrev k_LongBoats_bold : Nat := 34
def cd_LongBoats_bold : List (Nat × Nat × Instr) := [(0, 0, .aload 0), (1, 0, .iload 1), (2, 0, .iload 2), (3, 1009, .invokevirtual 644301), (6, 0, .ifCond .ne 7), (9, 0, .iconst (-2)), (11, 0, .ireturn), (12, 0, .iload 3), (13, 0, .iconst (-1)), (14, 0, .aload 0), (15, 453, .getfield 40970), (18, 0, .iload 1), (19, 764, .invokevirtual 338761), (22, 0, .iconst 1), (23, 0, .isub), (24, 499, .invokestatic 4109), (27, 0, .ifCond .ne 19), (30, 0, .iconst (-1)), (31, 0, .ireturn), (32, 0, .aload 0), (33, 458, .getfield 40990), (36, 1096, .invokevirtual 15173), (39, 0, .istore 4), (41, 0, .iload 3), (42, 0, .iconst (-1)), (43, 0, .if_icmp .ne 28), (46, 0, .iload 4), (48, 0, .goto 33), (51, 0, .aload 0), (52, 458, .getfield 40990), (55, 411, .getfield 42), (58, 0, .iload 3), (59, 877, .invokevirtual 468553), (62, 0, .ireturn)]
abbrev k_LongBoats_sure : Nat := 35
def cd_LongBoats_sure : List (Nat × Nat × Instr) := [(0, 0, .aload 0), (1, 0, .iload 1), (2, 0, .iload 2), (3, 1009, .invokevirtual 644301), (6, 0, .ifCond .ne 7), (9, 0, .iconst (-2)), (11, 0, .ireturn), (12, 0, .aload 0), (13, 458, .getfield 40990), (16, 1096, .invokevirtual 15173), (19, 0, .aload 0), (20, 453, .getfield 40970), (23, 0, .iload 2), (24, 764, .invokevirtual 338761), (27, 1112, .invokestatic 4421), (30, 0, .if_icmp .ne 18), (33, 0, .iconst 1), (34, 0, .goto 19), (37, 0, .iconst 0), (38, 0, .ireturn)]
abbrev k_LongBoats_pillar : Nat := 36
def cd_LongBoats_pillar : List (Nat × Nat × Instr) := [(0, 0, .aload 0), (1, 0, .iload 1), (2, 0, .iload 2), (3, 1009, .invokevirtual 644301), (6, 0, .ifCond .ne 7), (9, 0, .iconst (-2)), (11, 0, .ireturn), (12, 0, .aload 0), (13, 453, .getfield 40970), (16, 0, .iload 1), (17, 764, .invokevirtual 338761), (20, 0, .iconst 1), (21, 0, .if_icmp .gt 15), (24, 0, .iconst (-1)), (25, 0, .ireturn), (26, 0, .iconst (-1)), (27, 0, .istore 3), (28, 0, .iconst 6), (30, 0, .istore 4), (32, 0, .iconst 0), (33, 0, .istore 5), (35, 0, .nop), (35, 0, .iload 5), (37, 0, .aload 0), (38, 453, .getfield 40970), (41, 0, .iload 1), (42, 764, .invokevirtual 338761), (45, 0, .if_icmp .ge 57), (48, 0, .aload 0), (49, 458, .getfield 40990), (52, 0, .iload 1), (53, 0, .iload 2), (54, 1014, .invokevirtual 14540), (57, 0, .aload 0), (58, 458, .getfield 40990), (61, 0, .iload 5), (63, 1119, .invokevirtual 14600), (66, 0, .aload 0), (67, 458, .getfield 40990), (70, 1023, .invokevirtual 14660), (73, 0, .aload 0), (74, 458, .getfield 40990), (77, 1123, .invokevirtual 14917), (80, 0, .iload 4), (82, 0, .if_icmp .ge 55), (85, 0, .aload 0), (86, 458, .getfield 40990), (89, 1123, .invokevirtual 14917), (92, 0, .istore 4), (94, 0, .aload 0), (95, 453, .getfield 40970), (98, 0, .iload 1), (99, 0, .iload 5), (101, 765, .invokevirtual 338829), (104, 0, .istore 3), (105, 0, .iinc 5 1), (108, 0, .goto 21), (111, 0, .iload 3), (112, 0, .ireturn)]
abbrev k_LongBoats_swap : Nat := 37
def cd_LongBoats_swap : List (Nat × Nat × Instr) := [(0, 0, .aload 0), (1, 453, .getfield 40970), (4, 0, .iload 1), (5, 756, .invokevirtual 337993), (8, 0, .ifCond .eq 25), (11, 0, .iload 2), (12, 0, .iconst 0), (13, 0, .aload 0), (14, 453, .getfield 40970), (17, 0, .iload 1), (18, 764, .invokevirtual 338761), (21, 0, .iconst 1), (22, 0, .isub), (23, 499, .invokestatic 4109), (26, 0, .ifCond .eq 25), (29, 0, .iload 3), (30, 0, .iconst 0), (31, 0, .aload 0), (32, 453, .getfield 40970), (35, 0, .iload 1), (36, 764, .invokevirtual 338761), (39, 0, .iconst 1), (40, 0, .isub), (41, 499, .invokestatic 4109), (44, 0, .ifCond .ne 27), (47, 0, .iconst (-2)), (49, 0, .ireturn), (50, 0, .aload 0), (51, 453, .getfield 40970), (54, 0, .iload 1), (55, 0, .iload 2), (56, 765, .invokevirtual 338829), (59, 0, .istore 4), (61, 0, .aload 0), (62, 453, .getfield 40970), (65, 0, .iload 1), (66, 0, .iload 2), (67, 0, .aload 0), (68, 453, .getfield 40970), (71, 0, .iload 1), (72, 0, .iload 3), (73, 765, .invokevirtual 338829), (76, 1128, .invokevirtual 338896), (79, 0, .aload 0), (80, 453, .getfield 40970), (83, 0, .iload 1), (84, 0, .iload 3), (85, 0, .iload 4), (87, 1128, .invokevirtual 338896), (90, 0, .iconst 0), (91, 0, .ireturn)]
abbrev k_LongBoats_train : Nat := 38
def cd_LongBoats_train : List (Nat × Nat × Instr) := [(0, 0, .aload 0), (1, 453, .getfield 40970), (4, 0, .iload 1), (5, 735, .invokevirtual 337929), (8, 0, .ifCond .eq 14), (11, 0, .iload 2), (12, 0, .iconst 0), (13, 0, .iconst 5), (14, 499, .invokestatic 4109), (17, 0, .ifCond .eq 14), (20, 0, .iload 2), (21, 0, .iload 3), (22, 1133, .invokestatic 18505), (25, 0, .ifCond .ne 16), (28, 0, .iconst (-2)), (30, 0, .ireturn), (31, 0, .aload 0), (32, 453, .getfield 40970), (35, 0, .iload 1), (36, 0, .iload 2), (37, 736, .invokevirtual 338253), (40, 0, .istore 4), (42, 0, .aload 0), (43, 453, .getfield 40970), (46, 0, .iload 1), (47, 0, .iload 2), (48, 0, .iload 3), (49, 1139, .invokevirtual 338320), (52, 0, .iload 4), (54, 0, .ireturn)]
abbrev k_LongBoats_mend : Nat := 39
def cd_LongBoats_mend : List (Nat × Nat × Instr) := [(0, 0, .aload 0), (1, 453, .getfield 40970), (4, 0, .iload 1), (5, 744, .invokevirtual 337801), (8, 0, .ifCond .eq 14), (11, 0, .iload 2), (12, 0, .iconst 0), (13, 0, .iconst 1), (14, 499, .invokestatic 4109), (17, 0, .ifCond .eq 14), (20, 0, .iload 2), (21, 0, .iload 3), (22, 1144, .invokestatic 18185), (25, 0, .ifCond .ne 16), (28, 0, .iconst (-2)), (30, 0, .ireturn), (31, 0, .aload 0), (32, 453, .getfield 40970), (35, 0, .iload 1), (36, 0, .iload 2), (37, 748, .invokevirtual 338061), (40, 0, .istore 4), (42, 0, .aload 0), (43, 453, .getfield 40970), (46, 0, .iload 1), (47, 0, .iload 2), (48, 0, .iload 3), (49, 1147, .invokevirtual 338128), (52, 0, .iload 4), (54, 0, .ireturn)]
abbrev k_LongBoats_rule : Nat := 40
def cd_LongBoats_rule : List (Nat × Nat × Instr) := [(0, 0, .aload 0), (1, 453, .getfield 40970), (4, 163, .getfield 20480), (7, 0, .ifCond .ne 6), (10, 0, .iconst (-2)), (12, 0, .ireturn), (13, 0, .iconst (-2)), (15, 0, .istore 3), (16, 0, .iload 1), (17, 0, .ifCond .ne 24), (20, 0, .iload 2), (21, 0, .iconst 0), (22, 0, .iconst 12), (24, 499, .invokestatic 4109), (27, 0, .ifCond .eq 24), (30, 0, .aload 0), (31, 453, .getfield 40970), (34, 170, .getfield 20488), (37, 0, .istore 3), (38, 0, .aload 0), (39, 453, .getfield 40970), (42, 0, .iload 2), (43, 170, .putfield 20488), (46, 0, .goto 74), (49, 0, .iload 1), (50, 0, .iconst 1), (51, 0, .if_icmp .ne 41), (54, 0, .iload 2), (55, 0, .iconst 0), (56, 0, .iconst 9), (58, 499, .invokestatic 4109), (61, 0, .ifCond .eq 41), (64, 0, .aload 0), (65, 453, .getfield 40970), (68, 166, .getfield 20484), (71, 0, .istore 3), (72, 0, .aload 0), (73, 453, .getfield 40970), (76, 0, .iload 2), (77, 166, .putfield 20484), (80, 0, .goto 74), (83, 0, .iload 1), (84, 0, .iconst 2), (85, 0, .if_icmp .ne 58), (88, 0, .iload 2), (89, 0, .iconst 1), (90, 0, .iconst 7), (92, 499, .invokestatic 4109), (95, 0, .ifCond .eq 58), (98, 0, .aload 0), (99, 453, .getfield 40970), (102, 174, .getfield 20492), (105, 0, .istore 3), (106, 0, .aload 0), (107, 453, .getfield 40970), (110, 0, .iload 2), (111, 174, .putfield 20492), (114, 0, .goto 74), (117, 0, .iload 1), (118, 0, .iconst 3), (119, 0, .if_icmp .ne 74), (122, 0, .iload 2), (123, 0, .iconst 0), (124, 0, .iconst 50), (126, 499, .invokestatic 4109), (129, 0, .ifCond .eq 74), (132, 0, .aload 0), (133, 453, .getfield 40970), (136, 185, .getfield 20504), (139, 0, .istore 3), (140, 0, .aload 0), (141, 453, .getfield 40970), (144, 0, .iload 2), (145, 185, .putfield 20504), (148, 0, .iload 3), (149, 0, .ireturn)]
abbrev k_LongBoats_judge : Nat := 41
def cd_LongBoats_judge : List (Nat × Nat × Instr) := [(0, 0, .iload 2), (1, 0, .iconst 1), (2, 0, .iconst 4), (3, 499, .invokestatic 4109), (6, 0, .ifCond .eq 19), (9, 0, .iload 1), (10, 0, .iconst 0), (11, 0, .iload 2), (12, 499, .invokestatic 4109), (15, 0, .ifCond .eq 19), (18, 0, .iload 3), (19, 0, .iconst 0), (20, 0, .iconst 1), (21, 499, .invokestatic 4109), (24, 0, .ifCond .eq 19), (27, 0, .aload 0), (28, 453, .getfield 40970), (31, 191, .getfield 20512), (34, 0, .ifCond .ne 21), (37, 901, .ldc2_w 2), (40, 0, .lreturn), (41, 0, .aload 0), (42, 0, .iload 1), (43, 0, .iload 2), (44, 1156, .invokevirtual 644686), (47, 0, .lstore 4), (49, 0, .lload 4), (51, 0, .aload 0), (52, 0, .iload 1), (53, 0, .iload 2), (54, 1168, .invokevirtual 644750), (57, 0, .ladd), (58, 0, .lstore 6), (60, 0, .lload 6), (62, 0, .ldc2_w 0), (63, 0, .lcmp), (64, 0, .ifCond .ne 39), (67, 1172, .ldc2_w 3), (70, 0, .goto 43), (73, 0, .lload 4), (75, 0, .lload 6), (77, 0, .iload 3), (78, 882, .invokestatic 4878), (81, 0, .lreturn)]
abbrev k_LongBoats_needed : Nat := 42
def cd_LongBoats_needed : List (Nat × Nat × Instr) := [(0, 0, .iload 1), (1, 0, .iconst 1), (2, 0, .iconst 4), (3, 499, .invokestatic 4109), (6, 0, .ifCond .eq 9), (9, 0, .aload 0), (10, 453, .getfield 40970), (13, 191, .getfield 20512), (16, 0, .ifCond .ne 11), (19, 0, .iconst (-2)), (21, 0, .ireturn), (22, 0, .iconst 0), (23, 0, .istore 2), (24, 0, .nop), (24, 0, .iload 2), (25, 0, .iload 1), (26, 0, .if_icmp .gt 31), (29, 0, .aload 0), (30, 0, .iload 2), (31, 0, .iload 1), (32, 1156, .invokevirtual 644686), (35, 0, .aload 0), (36, 0, .iload 2), (37, 0, .iload 1), (38, 1168, .invokevirtual 644750), (41, 0, .lcmp), (42, 0, .ifCond .le 29), (45, 0, .iload 2), (46, 0, .ireturn), (47, 0, .iinc 2 1), (50, 0, .goto 13), (53, 0, .iconst (-1)), (54, 0, .ireturn)]
abbrev k_LongBoats_gaps : Nat := 43
def cd_LongBoats_gaps : List (Nat × Nat × Instr) := [(0, 0, .aload 0), (1, 0, .iload 1), (2, 1181, .invokevirtual 644937), (5, 0, .istore 2), (6, 0, .iload 2), (7, 0, .ifCond .eq 8), (10, 0, .iload 2), (11, 0, .goto 11), (14, 0, .aload 0), (15, 0, .iload 1), (16, 1206, .invokevirtual 645065), (19, 0, .ireturn)]
abbrev k_LongBoats_himself : Nat := 44
def cd_LongBoats_himself : List (Nat × Nat × Instr) := [(0, 0, .iload 2), (1, 0, .iconst 0), (2, 0, .iconst 2), (3, 499, .invokestatic 4109), (6, 0, .ifCond .ne 7), (9, 0, .iconst (-2)), (11, 0, .ireturn), (12, 0, .aload 0), (13, 0, .iload 1), (14, 1181, .invokevirtual 644937), (17, 0, .istore 3), (18, 0, .iload 3), (19, 0, .ifCond .eq 15), (22, 0, .iload 3), (23, 0, .ireturn), (24, 0, .aload 0), (25, 0, .iload 1), (26, 1206, .invokevirtual 645065), (29, 0, .istore 4), (31, 0, .iload 4), (33, 0, .ifCond .ne 23), (36, 0, .iconst (-1)), (37, 0, .ireturn), (38, 0, .iconst 0), (39, 0, .istore 5), (41, 0, .iconst 0), (42, 0, .istore 6), (44, 0, .nop), (44, 0, .iload 6), (46, 0, .iconst 2), (47, 0, .iadd), (48, 0, .aload 0), (49, 456, .getfield 40982), (52, 0, .iload 1), (53, 1194, .invokevirtual 533001), (56, 0, .if_icmp .ge 53), (59, 0, .iload 5), (61, 0, .aload 0), (62, 0, .iload 1), (63, 0, .iload 6), (65, 0, .iload 2), (66, 0, .iconst 1), (67, 0, .iadd), (68, 0, .iload 4), (70, 1219, .invokevirtual 645141), (73, 0, .ifCond .eq 48), (76, 0, .iconst 1), (77, 0, .goto 49), (80, 0, .iconst 0), (81, 0, .iadd), (82, 0, .istore 5), (84, 0, .iinc 6 3), (87, 0, .goto 27), (90, 0, .iload 5), (92, 0, .ireturn)]
abbrev k_LongBoats_odd : Nat := 45
def cd_LongBoats_odd : List (Nat × Nat × Instr) := [(0, 0, .aload 0), (1, 0, .iload 1), (2, 1181, .invokevirtual 644937), (5, 0, .istore 2), (6, 0, .iload 2), (7, 0, .ifCond .eq 8), (10, 0, .iload 2), (11, 0, .ireturn), (12, 0, .iconst 0), (13, 0, .istore 3), (14, 0, .nop), (14, 0, .iload 3), (15, 0, .iconst 2), (16, 0, .iadd), (17, 0, .aload 0), (18, 456, .getfield 40982), (21, 0, .iload 1), (22, 1194, .invokevirtual 533001), (25, 0, .if_icmp .ge 50), (28, 0, .aload 0), (29, 0, .iload 1), (30, 0, .iload 3), (31, 1211, .invokevirtual 645004), (34, 0, .aload 0), (35, 457, .getfield 40986), (38, 0, .aload 0), (39, 457, .getfield 40986), (42, 0, .aload 0), (43, 457, .getfield 40986), (46, 349, .getfield 8232), (49, 818, .invokevirtual 143945), (52, 0, .iconst 0), (53, 0, .iconst 0), (54, 822, .invokevirtual 144145), (57, 0, .i2l), (58, 0, .aload 0), (59, 456, .getfield 40982), (62, 0, .iload 1), (63, 0, .iload 3), (64, 0, .iconst 2), (65, 0, .iadd), (66, 1198, .invokevirtual 533326), (69, 0, .lcmp), (70, 0, .ifCond .eq 48), (73, 0, .iload 3), (74, 0, .iconst 3), (75, 0, .idiv), (76, 0, .ireturn), (77, 0, .iinc 3 3), (80, 0, .goto 10), (83, 0, .iconst (-1)), (84, 0, .ireturn)]
abbrev k_LongBoats_wave : Nat := 46
def cd_LongBoats_wave : List (Nat × Nat × Instr) := [(0, 0, .aload 0), (1, 453, .getfield 40970), (4, 0, .iload 1), (5, 744, .invokevirtual 337801), (8, 0, .ifCond .eq 10), (11, 0, .iload 2), (12, 0, .iconst 0), (13, 0, .iconst 999), (16, 499, .invokestatic 4109), (19, 0, .ifCond .ne 12), (22, 0, .iconst (-2)), (24, 0, .ireturn), (25, 0, .iconst 4), (26, 0, .aload 0), (27, 453, .getfield 40970), (30, 0, .iload 1), (31, 0, .iconst 0), (32, 748, .invokevirtual 338061), (35, 0, .imul), (36, 0, .iload 2), (37, 0, .iconst 1), (38, 0, .iadd), (39, 0, .idiv), (40, 0, .ireturn)]
abbrev k_LongBoats_calm : Nat := 47
def cd_LongBoats_calm : List (Nat × Nat × Instr) := [(0, 0, .aload 0), (1, 453, .getfield 40970), (4, 0, .iload 1), (5, 744, .invokevirtual 337801), (8, 0, .ifCond .eq 10), (11, 0, .iload 2), (12, 0, .iconst 0), (13, 0, .iconst 99), (15, 499, .invokestatic 4109), (18, 0, .ifCond .ne 12), (21, 0, .iconst (-2)), (23, 0, .ireturn), (24, 0, .iconst 4), (25, 0, .aload 0), (26, 453, .getfield 40970), (29, 0, .iload 1), (30, 0, .iconst 0), (31, 748, .invokevirtual 338061), (34, 0, .imul), (35, 0, .iload 2), (36, 0, .iconst 1), (37, 0, .iadd), (38, 0, .idiv), (39, 0, .ireturn)]
abbrev k_LongBoats_champion : Nat := 48
def cd_LongBoats_champion : List (Nat × Nat × Instr) := [(0, 0, .aload 0), (1, 453, .getfield 40970), (4, 0, .iload 1), (5, 0, .iload 2), (6, 770, .invokevirtual 337869), (9, 0, .ifCond .ne 8), (12, 0, .iconst (-2)), (14, 0, .ireturn), (15, 0, .iconst (-1)), (16, 0, .istore 3), (17, 0, .iconst 10), (19, 0, .istore 4), (21, 0, .iconst 0), (22, 0, .istore 5), (24, 0, .nop), (24, 0, .iload 5), (26, 0, .aload 0), (27, 453, .getfield 40970), (30, 191, .getfield 20512), (33, 0, .if_icmp .ge 59), (36, 0, .aload 0), (37, 453, .getfield 40970), (40, 191, .getfield 20512), (43, 0, .iconst 1), (44, 0, .if_icmp .le 59), (47, 0, .iconst 0), (48, 0, .istore 6), (50, 0, .iconst 0), (51, 0, .istore 7), (53, 0, .nop), (53, 0, .iload 7), (55, 0, .aload 0), (56, 453, .getfield 40970), (59, 191, .getfield 20512), (62, 0, .if_icmp .ge 50), (65, 0, .iload 6), (67, 0, .aload 0), (68, 0, .iload 5), (70, 0, .iload 7), (72, 0, .iload 1), (73, 0, .iload 2), (74, 1239, .invokevirtual 644501), (77, 0, .ifCond .eq 45), (80, 0, .iconst 1), (81, 0, .goto 46), (84, 0, .iconst 0), (85, 0, .iadd), (86, 0, .istore 6), (88, 0, .iinc 7 1), (91, 0, .goto 29), (94, 0, .iload 6), (96, 0, .iload 4), (98, 0, .if_icmp .ge 57), (101, 0, .iload 6), (103, 0, .istore 4), (105, 0, .iload 5), (107, 0, .istore 3), (108, 0, .iinc 5 1), (111, 0, .goto 14), (114, 0, .iload 3), (115, 0, .ireturn)]
abbrev k_LongBoats_beaten : Nat := 49
def cd_LongBoats_beaten : List (Nat × Nat × Instr) := [(0, 0, .aload 0), (1, 453, .getfield 40970), (4, 0, .iload 1), (5, 735, .invokevirtual 337929), (8, 0, .ifCond .eq 11), (11, 0, .aload 0), (12, 453, .getfield 40970), (15, 0, .iload 2), (16, 0, .iload 3), (17, 770, .invokevirtual 337869), (20, 0, .ifCond .ne 13), (23, 0, .iconst (-2)), (25, 0, .ireturn), (26, 0, .iconst 0), (27, 0, .istore 4), (29, 0, .iconst 0), (30, 0, .istore 5), (32, 0, .nop), (32, 0, .iload 5), (34, 0, .aload 0), (35, 453, .getfield 40970), (38, 191, .getfield 20512), (41, 0, .if_icmp .ge 39), (44, 0, .iload 4), (46, 0, .aload 0), (47, 0, .iload 1), (48, 0, .iload 5), (50, 0, .iload 2), (51, 0, .iload 3), (52, 1239, .invokevirtual 644501), (55, 0, .iconst 3), (56, 0, .if_icmp .ne 34), (59, 0, .iconst 1), (60, 0, .goto 35), (63, 0, .iconst 0), (64, 0, .iadd), (65, 0, .istore 4), (67, 0, .iinc 5 1), (70, 0, .goto 17), (73, 0, .iload 4), (75, 0, .ireturn)]
abbrev k_LongBoats_ring : Nat := 50
def cd_LongBoats_ring : List (Nat × Nat × Instr) := [(0, 0, .aload 0), (1, 453, .getfield 40970), (4, 0, .iload 1), (5, 0, .iload 2), (6, 770, .invokevirtual 337869), (9, 0, .ifCond .ne 8), (12, 0, .iconst (-2)), (14, 0, .ireturn), (15, 0, .iconst 0), (16, 0, .istore 3), (17, 0, .nop), (17, 0, .iload 3), (18, 0, .aload 0), (19, 453, .getfield 40970), (22, 191, .getfield 20512), (25, 0, .if_icmp .ge 59), (28, 0, .iload 3), (29, 0, .iconst 1), (30, 0, .iadd), (31, 0, .istore 4), (33, 0, .nop), (33, 0, .iload 4), (35, 0, .aload 0), (36, 453, .getfield 40970), (39, 191, .getfield 20512), (42, 0, .if_icmp .ge 57), (45, 0, .aload 0), (46, 0, .iload 3), (47, 0, .iload 4), (49, 0, .iload 1), (50, 0, .iload 2), (51, 1251, .invokevirtual 644565), (54, 0, .ifCond .eq 40), (57, 0, .aload 0), (58, 0, .iload 3), (59, 0, .iload 4), (61, 0, .iload 1), (62, 0, .iload 2), (63, 1255, .invokevirtual 644629), (66, 0, .goto 41), (69, 0, .iconst (-1)), (70, 0, .istore 5), (72, 0, .iload 5), (74, 0, .iconst (-1)), (75, 0, .if_icmp .eq 55), (78, 0, .iconst 100), (80, 0, .iload 3), (81, 0, .imul), (82, 0, .iconst 10), (84, 0, .iload 4), (86, 0, .imul), (87, 0, .iadd), (88, 0, .iload 5), (90, 0, .iadd), (91, 0, .ireturn), (92, 0, .iinc 4 1), (95, 0, .goto 20), (98, 0, .iinc 3 1), (101, 0, .goto 10), (104, 0, .iconst (-1)), (105, 0, .ireturn)]
abbrev k_LongBoats_margin : Nat := 51
def cd_LongBoats_margin : List (Nat × Nat × Instr) := [(0, 0, .iload 5), (2, 0, .iconst 0), (3, 0, .iconst 99), (5, 499, .invokestatic 4109), (8, 0, .ifCond .eq 12), (11, 0, .aload 0), (12, 0, .iload 1), (13, 0, .iload 2), (14, 0, .iload 3), (15, 0, .iload 4), (17, 806, .invokevirtual 644245), (20, 0, .ifCond .ne 14), (23, 0, .iconst (-1000)), (26, 0, .ireturn), (27, 0, .aload 0), (28, 457, .getfield 40986), (31, 332, .getfield 8194), (34, 0, .aload 0), (35, 457, .getfield 40986), (38, 346, .getfield 8228), (41, 0, .iload 5), (43, 798, .invokevirtual 208845), (46, 0, .aload 0), (47, 457, .getfield 40986), (50, 336, .getfield 8198), (53, 0, .aload 0), (54, 457, .getfield 40986), (57, 346, .getfield 8228), (60, 0, .iload 5), (62, 0, .aload 0), (63, 457, .getfield 40986), (66, 332, .getfield 8194), (69, 303, .getfield 12308), (72, 810, .invokevirtual 208913), (75, 0, .isub), (76, 0, .ireturn)]
abbrev k_LongBoats_feared : Nat := 52
def cd_LongBoats_feared : List (Nat × Nat × Instr) := [(0, 0, .aload 0), (1, 453, .getfield 40970), (4, 0, .iload 1), (5, 735, .invokevirtual 337929), (8, 0, .ifCond .eq 11), (11, 0, .aload 0), (12, 453, .getfield 40970), (15, 0, .iload 2), (16, 0, .iload 3), (17, 770, .invokevirtual 337869), (20, 0, .ifCond .ne 13), (23, 0, .iconst (-2)), (25, 0, .ireturn), (26, 0, .iconst (-1)), (27, 0, .istore 4), (29, 0, .iconst 0), (30, 0, .istore 5), (32, 0, .iconst 0), (33, 0, .istore 6), (35, 0, .nop), (35, 0, .iload 6), (37, 0, .aload 0), (38, 453, .getfield 40970), (41, 191, .getfield 20512), (44, 0, .if_icmp .ge 72), (47, 0, .aload 0), (48, 0, .iload 1), (49, 0, .iload 6), (51, 0, .iload 2), (52, 0, .iload 3), (53, 806, .invokevirtual 644245), (56, 0, .ifCond .eq 70), (59, 0, .aload 0), (60, 457, .getfield 40986), (63, 336, .getfield 8198), (66, 303, .getfield 12308), (69, 0, .iconst 2), (70, 0, .if_icmp .eq 70), (73, 0, .aload 0), (74, 457, .getfield 40986), (77, 336, .getfield 8198), (80, 0, .aload 0), (81, 457, .getfield 40986), (84, 346, .getfield 8228), (87, 0, .iconst 0), (88, 798, .invokevirtual 208845), (91, 0, .aload 0), (92, 457, .getfield 40986), (95, 332, .getfield 8194), (98, 0, .aload 0), (99, 457, .getfield 40986), (102, 346, .getfield 8228), (105, 0, .iconst 0), (106, 0, .aload 0), (107, 457, .getfield 40986), (110, 336, .getfield 8198), (113, 303, .getfield 12308), (116, 810, .invokevirtual 208913), (119, 0, .isub), (120, 0, .istore 7), (122, 0, .iload 4), (124, 0, .iconst (-1)), (125, 0, .if_icmp .eq 66), (128, 0, .iload 7), (130, 0, .iload 5), (132, 0, .if_icmp .le 70), (135, 0, .iload 7), (137, 0, .istore 5), (139, 0, .iload 6), (141, 0, .istore 4), (143, 0, .iinc 6 1), (146, 0, .goto 19), (149, 0, .iload 4), (151, 0, .ireturn)]
abbrev k_LongBoats_weary : Nat := 53
def cd_LongBoats_weary : List (Nat × Nat × Instr) := [(0, 0, .aload 0), (1, 0, .iload 1), (2, 0, .iload 2), (3, 0, .iload 3), (4, 0, .iload 4), (6, 806, .invokevirtual 644245), (9, 0, .ifCond .ne 9), (12, 0, .iconst (-2)), (14, 0, .ireturn), (15, 0, .aload 0), (16, 457, .getfield 40986), (19, 336, .getfield 8198), (22, 0, .aload 0), (23, 457, .getfield 40986), (26, 346, .getfield 8228), (29, 0, .iconst 0), (30, 0, .aload 0), (31, 457, .getfield 40986), (34, 332, .getfield 8194), (37, 303, .getfield 12308), (40, 810, .invokevirtual 208913), (43, 0, .istore 5), (45, 0, .iconst 0), (46, 0, .istore 6), (48, 0, .nop), (48, 0, .iload 6), (50, 0, .iconst 99), (52, 0, .if_icmp .gt 42), (55, 0, .aload 0), (56, 457, .getfield 40986), (59, 332, .getfield 8194), (62, 0, .aload 0), (63, 457, .getfield 40986), (66, 346, .getfield 8228), (69, 0, .iload 6), (71, 798, .invokevirtual 208845), (74, 0, .iload 5), (76, 0, .if_icmp .gt 40), (79, 0, .iload 6), (81, 0, .ireturn), (82, 0, .iinc 6 1), (85, 0, .goto 24), (88, 0, .iconst (-1)), (89, 0, .ireturn)]
abbrev k_LongBoats_part : Nat := 54
def cd_LongBoats_part : List (Nat × Nat × Instr) := [(0, 0, .aload 0), (1, 0, .iload 1), (2, 0, .iload 2), (3, 0, .iload 3), (4, 0, .iload 4), (6, 806, .invokevirtual 644245), (9, 0, .ifCond .ne 9), (12, 0, .iconst (-1000)), (15, 0, .ireturn), (16, 0, .aload 0), (17, 457, .getfield 40986), (20, 0, .aload 0), (21, 457, .getfield 40986), (24, 349, .getfield 8232), (27, 870, .invokevirtual 144392), (30, 0, .aload 0), (31, 457, .getfield 40986), (34, 0, .aload 0), (35, 457, .getfield 40986), (38, 0, .aload 0), (39, 457, .getfield 40986), (42, 349, .getfield 8232), (45, 818, .invokevirtual 143945), (48, 0, .iconst 0), (49, 0, .iconst 0), (50, 822, .invokevirtual 144145), (53, 0, .istore 5), (55, 0, .aload 0), (56, 457, .getfield 40986), (59, 914, .invokevirtual 144581), (62, 0, .aload 0), (63, 457, .getfield 40986), (66, 878, .invokevirtual 144325), (69, 0, .iload 5), (71, 1275, .invokestatic 16517), (74, 0, .imul), (75, 0, .isub), (76, 0, .ireturn)]
abbrev k_LongBoats_drawn : Nat := 55
def cd_LongBoats_drawn : List (Nat × Nat × Instr) := [(0, 0, .iload 1), (1, 0, .iconst 0), (2, 1280, .iconst 2000000000), (5, 499, .invokestatic 4109), (8, 0, .ifCond .eq 17), (11, 0, .iload 6), (13, 0, .iconst 0), (14, 0, .iconst 2), (15, 499, .invokestatic 4109), (18, 0, .ifCond .eq 17), (21, 0, .aload 0), (22, 0, .iload 2), (23, 0, .iload 3), (24, 0, .iload 4), (26, 0, .iload 5), (28, 806, .invokevirtual 644245), (31, 0, .ifCond .ne 19), (34, 0, .iconst (-2)), (36, 0, .ireturn), (37, 0, .aload 0), (38, 457, .getfield 40986), (41, 0, .iload 1), (42, 1281, .invokevirtual 143880), (45, 0, .aload 0), (46, 457, .getfield 40986), (49, 0, .iconst 0), (50, 0, .iconst 0), (51, 844, .invokevirtual 144204), (54, 0, .iload 6), (56, 0, .ifCond .ne 34), (59, 0, .aload 0), (60, 457, .getfield 40986), (63, 354, .getfield 8240), (66, 0, .ireturn), (67, 0, .iload 6), (69, 0, .iconst 1), (70, 0, .if_icmp .ne 40), (73, 0, .aload 0), (74, 862, .invokevirtual 644357), (77, 0, .goto 43), (80, 0, .aload 0), (81, 457, .getfield 40986), (84, 359, .getfield 8248), (87, 0, .ireturn)]
abbrev k_LongBoats_years : Nat := 56
def cd_LongBoats_years : List (Nat × Nat × Instr) := [(0, 0, .iload 1), (1, 0, .iconst 0), (2, 1280, .iconst 2000000000), (5, 499, .invokestatic 4109), (8, 0, .ifCond .eq 22), (11, 0, .iload 2), (12, 0, .iconst 1), (13, 0, .iconst 20), (15, 499, .invokestatic 4109), (18, 0, .ifCond .eq 22), (21, 0, .iload 7), (23, 0, .iconst 0), (24, 0, .iconst 3), (25, 499, .invokestatic 4109), (28, 0, .ifCond .eq 22), (31, 0, .aload 0), (32, 0, .iload 3), (33, 0, .iload 4), (35, 0, .iload 5), (37, 0, .iload 6), (39, 806, .invokevirtual 644245), (42, 0, .ifCond .ne 24), (45, 0, .iconst (-2)), (47, 0, .ireturn), (48, 0, .iconst 0), (49, 0, .istore 8), (51, 0, .iconst 0), (52, 0, .istore 9), (54, 0, .nop), (54, 0, .iload 9), (56, 0, .iload 2), (57, 0, .if_icmp .ge 56), (60, 0, .aload 0), (61, 457, .getfield 40986), (64, 0, .iload 1), (65, 0, .iload 9), (67, 0, .iadd), (68, 1281, .invokevirtual 143880), (71, 0, .aload 0), (72, 457, .getfield 40986), (75, 0, .iconst 0), (76, 0, .iconst 0), (77, 844, .invokevirtual 144204), (80, 0, .iload 8), (82, 0, .aload 0), (83, 457, .getfield 40986), (86, 354, .getfield 8240), (89, 0, .iload 7), (91, 0, .if_icmp .ne 51), (94, 0, .iconst 1), (95, 0, .goto 52), (98, 0, .iconst 0), (99, 0, .iadd), (100, 0, .istore 8), (102, 0, .iinc 9 1), (105, 0, .goto 28), (108, 0, .iload 8), (110, 0, .ireturn)]
abbrev k_LongBoats_day : Nat := 57
def cd_LongBoats_day : List (Nat × Nat × Instr) := [(0, 0, .iload 1), (1, 0, .iconst 0), (2, 1280, .iconst 2000000000), (5, 499, .invokestatic 4109), (8, 0, .ifCond .eq 15), (11, 0, .iload 4), (13, 0, .iconst 0), (14, 0, .iconst 2), (15, 499, .invokestatic 4109), (18, 0, .ifCond .eq 15), (21, 0, .aload 0), (22, 0, .iload 2), (23, 0, .iload 3), (24, 1009, .invokevirtual 644301), (27, 0, .ifCond .ne 17), (30, 0, .iconst (-2)), (32, 0, .ireturn), (33, 0, .aload 0), (34, 457, .getfield 40986), (37, 0, .iload 1), (38, 1281, .invokevirtual 143880), (41, 0, .aload 0), (42, 458, .getfield 40990), (45, 1023, .invokevirtual 14660), (48, 0, .aload 0), (49, 458, .getfield 40990), (52, 0, .iload 4), (54, 1039, .invokevirtual 14985), (57, 0, .ireturn)]
abbrev k_LongBoats_count : Nat := 58
def cd_LongBoats_count : List (Nat × Nat × Instr) := [(0, 0, .iload 1), (1, 0, .tableswitch 50 0 11 #[2, 6, 10, 14, 18, 22, 26, 30, 34, 38, 42, 46]), (64, 0, .aload 0), (65, 453, .getfield 40970), (68, 188, .getfield 20508), (71, 0, .ireturn), (72, 0, .aload 0), (73, 453, .getfield 40970), (76, 191, .getfield 20512), (79, 0, .ireturn), (80, 0, .aload 0), (81, 453, .getfield 40970), (84, 194, .getfield 20516), (87, 0, .ireturn), (88, 0, .aload 0), (89, 453, .getfield 40970), (92, 166, .getfield 20484), (95, 0, .ireturn), (96, 0, .aload 0), (97, 453, .getfield 40970), (100, 170, .getfield 20488), (103, 0, .ireturn), (104, 0, .aload 0), (105, 453, .getfield 40970), (108, 174, .getfield 20492), (111, 0, .ireturn), (112, 0, .aload 0), (113, 453, .getfield 40970), (116, 178, .getfield 20496), (119, 0, .ireturn), (120, 0, .aload 0), (121, 453, .getfield 40970), (124, 182, .getfield 20500), (127, 0, .ireturn), (128, 0, .aload 0), (129, 453, .getfield 40970), (132, 185, .getfield 20504), (135, 0, .ireturn), (136, 0, .aload 0), (137, 453, .getfield 40970), (140, 163, .getfield 20480), (143, 0, .ireturn), (144, 0, .aload 0), (145, 451, .getfield 40962), (148, 491, .invokevirtual 597637), (151, 0, .ireturn), (152, 0, .aload 0), (153, 456, .getfield 40982), (156, 1301, .invokevirtual 533125), (159, 0, .ireturn), (160, 0, .iconst (-1)), (161, 0, .ireturn)]
abbrev k_LongBoats_image : Nat := 59
def cd_LongBoats_image : List (Nat × Nat × Instr) := [(0, 0, .iload 1), (1, 0, .iconst 0), (2, 0, .aload 0), (3, 455, .getfield 40978), (6, 0, .arraylength), (7, 0, .iconst 1), (8, 0, .isub), (9, 499, .invokestatic 4109), (12, 0, .ifCond .ne 11), (15, 0, .iconst (-2)), (17, 0, .ireturn), (18, 0, .aload 0), (19, 455, .getfield 40978), (22, 0, .iload 1), (23, 0, .aaload), (24, 0, .astore 2), (25, 0, .aload 2), (26, 0, .ifnonnull 27), (29, 144, .new 5), (32, 0, .dup), (33, 146, .invokespecial 337604), (36, 0, .astore 2), (37, 0, .aload 0), (38, 455, .getfield 40978), (41, 0, .iload 1), (42, 0, .aload 2), (43, 0, .aastore), (44, 0, .aload 2), (45, 0, .aload 0), (46, 453, .getfield 40970), (49, 718, .invokevirtual 337736), (52, 0, .iconst 0), (53, 0, .ireturn)]
abbrev k_LongBoats_back : Nat := 60
def cd_LongBoats_back : List (Nat × Nat × Instr) := [(0, 0, .iload 1), (1, 0, .iconst 0), (2, 0, .aload 0), (3, 455, .getfield 40978), (6, 0, .arraylength), (7, 0, .iconst 1), (8, 0, .isub), (9, 499, .invokestatic 4109), (12, 0, .ifCond .ne 11), (15, 0, .iconst (-2)), (17, 0, .ireturn), (18, 0, .aload 0), (19, 455, .getfield 40978), (22, 0, .iload 1), (23, 0, .aaload), (24, 0, .astore 2), (25, 0, .aload 2), (26, 0, .ifnonnull 20), (29, 0, .iconst (-6)), (31, 0, .ireturn), (32, 0, .aload 0), (33, 453, .getfield 40970), (36, 0, .aload 2), (37, 718, .invokevirtual 337736), (40, 0, .iconst 0), (41, 0, .ireturn)]
abbrev k_LongBoats_row : Nat := 61
def cd_LongBoats_row : List (Nat × Nat × Instr) := [(0, 0, .iload 1), (1, 1185, .invokestatic 20869), (4, 0, .ifCond .eq 11), (7, 0, .iload 2), (8, 0, .iconst 0), (9, 0, .iconst 3), (10, 499, .invokestatic 4109), (13, 0, .ifCond .eq 11), (16, 0, .iload 3), (17, 0, .iconst 60), (19, 0, .if_icmp .le 13), (22, 0, .iconst (-2)), (24, 0, .ireturn), (25, 0, .iload 3), (26, 0, .ifCond .ge 17), (29, 0, .iconst (-3)), (31, 0, .ireturn), (32, 0, .aload 0), (33, 456, .getfield 40982), (36, 0, .iload 1), (37, 0, .iload 2), (38, 0, .iload 3), (39, 1318, .invokevirtual 533200), (42, 0, .iconst 0), (43, 0, .ireturn)]
abbrev k_LongBoats_write : Nat := 62
def cd_LongBoats_write : List (Nat × Nat × Instr) := [(0, 0, .iload 1), (1, 1185, .invokestatic 20869), (4, 0, .ifCond .ne 5), (7, 0, .iconst (-2)), (9, 0, .ireturn), (10, 0, .aload 0), (11, 456, .getfield 40982), (14, 0, .iload 1), (15, 1188, .invokevirtual 532937), (18, 0, .ifCond .ne 12), (21, 0, .iconst (-6)), (23, 0, .ireturn), (24, 0, .iload 2), (25, 0, .iconst 0), (26, 0, .aload 0), (27, 456, .getfield 40982), (30, 0, .iload 1), (31, 1194, .invokevirtual 533001), (34, 0, .iconst 1), (35, 0, .isub), (36, 499, .invokestatic 4109), (39, 0, .ifCond .ne 24), (42, 0, .iconst (-7)), (44, 0, .ireturn), (45, 0, .aload 0), (46, 456, .getfield 40982), (49, 0, .iload 1), (50, 0, .iload 2), (51, 0, .lload 3), (52, 1338, .invokevirtual 533392), (55, 0, .iconst 0), (56, 0, .ireturn)]
abbrev k_LongBoats_paste : Nat := 63
def cd_LongBoats_paste : List (Nat × Nat × Instr) := [(0, 0, .iload 1), (1, 1185, .invokestatic 20869), (4, 0, .ifCond .eq 6), (7, 0, .iload 3), (8, 1185, .invokestatic 20869), (11, 0, .ifCond .ne 8), (14, 0, .iconst (-2)), (16, 0, .ireturn), (17, 0, .aload 0), (18, 456, .getfield 40982), (21, 0, .iload 1), (22, 1188, .invokevirtual 532937), (25, 0, .ifCond .eq 18), (28, 0, .aload 0), (29, 456, .getfield 40982), (32, 0, .iload 3), (33, 1188, .invokevirtual 532937), (36, 0, .ifCond .ne 20), (39, 0, .iconst (-6)), (41, 0, .ireturn), (42, 0, .aload 0), (43, 456, .getfield 40982), (46, 0, .iload 1), (47, 1343, .invokevirtual 533065), (50, 0, .aload 0), (51, 456, .getfield 40982), (54, 0, .iload 3), (55, 1343, .invokevirtual 533065), (58, 0, .if_icmp .eq 31), (61, 0, .iconst (-8)), (63, 0, .ireturn), (64, 0, .iload 5), (66, 0, .ifCond .lt 53), (69, 0, .iload 2), (70, 0, .iconst 0), (71, 0, .aload 0), (72, 456, .getfield 40982), (75, 0, .iload 1), (76, 1194, .invokevirtual 533001), (79, 0, .iload 5), (81, 0, .isub), (82, 499, .invokestatic 4109), (85, 0, .ifCond .eq 53), (88, 0, .iload 4), (90, 0, .iconst 0), (91, 0, .aload 0), (92, 456, .getfield 40982), (95, 0, .iload 3), (96, 1194, .invokevirtual 533001), (99, 0, .iload 5), (101, 0, .isub), (102, 499, .invokestatic 4109), (105, 0, .ifCond .ne 55), (108, 0, .iconst (-7)), (110, 0, .ireturn), (111, 0, .aload 0), (112, 456, .getfield 40982), (115, 0, .iload 1), (116, 0, .iload 2), (117, 0, .iload 3), (118, 0, .iload 4), (120, 0, .iload 5), (122, 1344, .invokevirtual 533528), (125, 0, .iconst 0), (126, 0, .ireturn)]
abbrev k_LongBoats_within : Nat := 64
def cd_LongBoats_within : List (Nat × Nat × Instr) := [(0, 0, .iload 0), (1, 0, .iload 1), (2, 0, .if_icmp .lt 8), (5, 0, .iload 0), (6, 0, .iload 2), (7, 0, .if_icmp .gt 8), (10, 0, .iconst 1), (11, 0, .goto 9), (14, 0, .iconst 0), (15, 0, .areturn)]
abbrev k_LongBoats_isChoice : Nat := 65
def cd_LongBoats_isChoice : List (Nat × Nat × Instr) := [(0, 0, .iload 0), (1, 0, .iconst 0), (2, 0, .iconst 9), (4, 499, .invokestatic 4109), (7, 0, .areturn)]
abbrev k_LongBoats_faces : Nat := 66
def cd_LongBoats_faces : List (Nat × Nat × Instr) := [(0, 0, .iload 1), (1, 0, .iload 2), (2, 0, .if_icmp .eq 19), (5, 0, .aload 0), (6, 453, .getfield 40970), (9, 0, .iload 1), (10, 735, .invokevirtual 337929), (13, 0, .ifCond .eq 19), (16, 0, .aload 0), (17, 453, .getfield 40970), (20, 0, .iload 2), (21, 735, .invokevirtual 337929), (24, 0, .ifCond .eq 19), (27, 0, .aload 0), (28, 453, .getfield 40970), (31, 0, .iload 3), (32, 0, .iload 4), (34, 770, .invokevirtual 337869), (37, 0, .ifCond .ne 21), (40, 0, .iconst 0), (41, 0, .areturn), (42, 0, .aload 0), (43, 457, .getfield 40986), (46, 0, .aload 0), (47, 453, .getfield 40970), (50, 0, .iload 3), (51, 0, .iload 4), (53, 787, .invokevirtual 143824), (56, 0, .aload 0), (57, 457, .getfield 40986), (60, 332, .getfield 8194), (63, 0, .aload 0), (64, 453, .getfield 40970), (67, 0, .iload 1), (68, 793, .invokevirtual 208716), (71, 0, .aload 0), (72, 457, .getfield 40986), (75, 336, .getfield 8198), (78, 0, .aload 0), (79, 453, .getfield 40970), (82, 0, .iload 2), (83, 793, .invokevirtual 208716), (86, 0, .iconst 1), (87, 0, .areturn)]
abbrev k_LongBoats_meets : Nat := 67
def cd_LongBoats_meets : List (Nat × Nat × Instr) := [(0, 0, .iload 1), (1, 0, .iload 2), (2, 0, .if_icmp .eq 13), (5, 0, .aload 0), (6, 453, .getfield 40970), (9, 0, .iload 1), (10, 756, .invokevirtual 337993), (13, 0, .ifCond .eq 13), (16, 0, .aload 0), (17, 453, .getfield 40970), (20, 0, .iload 2), (21, 756, .invokevirtual 337993), (24, 0, .ifCond .ne 15), (27, 0, .iconst 0), (28, 0, .areturn), (29, 0, .iconst 0), (30, 0, .istore 3), (31, 0, .nop), (31, 0, .iload 3), (32, 0, .aload 0), (33, 453, .getfield 40970), (36, 0, .iload 1), (37, 764, .invokevirtual 338761), (40, 0, .if_icmp .ge 38), (43, 0, .aload 0), (44, 453, .getfield 40970), (47, 0, .iload 2), (48, 0, .aload 0), (49, 453, .getfield 40970), (52, 0, .iload 1), (53, 0, .iload 3), (54, 765, .invokevirtual 338829), (57, 1013, .invokevirtual 339021), (60, 0, .ifCond .eq 36), (63, 0, .iconst 0), (64, 0, .areturn), (65, 0, .iinc 3 1), (68, 0, .goto 17), (71, 0, .aload 0), (72, 458, .getfield 40990), (75, 0, .iload 1), (76, 0, .iload 2), (77, 1014, .invokevirtual 14540), (80, 0, .iconst 1), (81, 0, .areturn)]
abbrev k_LongBoats_lastPass : Nat := 68
def cd_LongBoats_lastPass : List (Nat × Nat × Instr) := [(0, 0, .aload 0), (1, 457, .getfield 40986), (4, 354, .getfield 8240), (7, 0, .ifCond .ne 6), (10, 0, .iconst (-1)), (11, 0, .goto 11), (14, 0, .aload 0), (15, 457, .getfield 40986), (18, 357, .getfield 8244), (21, 0, .iconst 1), (22, 0, .isub), (23, 0, .ireturn)]
abbrev k_LongBoats_ordersOf : Nat := 69
def cd_LongBoats_ordersOf : List (Nat × Nat × Instr) := [(0, 0, .iconst 1), (1, 0, .istore 1), (2, 0, .iconst 2), (3, 0, .istore 2), (4, 0, .nop), (4, 0, .iload 2), (5, 0, .iload 0), (6, 0, .if_icmp .gt 14), (9, 0, .iload 1), (10, 0, .iload 2), (11, 0, .imul), (12, 0, .istore 1), (13, 0, .iinc 2 1), (16, 0, .goto 4), (19, 0, .iload 1), (20, 0, .ireturn)]
abbrev k_LongBoats_firstFate : Nat := 70
def cd_LongBoats_firstFate : List (Nat × Nat × Instr) := [(0, 0, .aload 0), (1, 0, .iload 1), (2, 0, .iload 2), (3, 0, .iload 3), (4, 0, .iload 4), (6, 806, .invokevirtual 644245), (9, 0, .ifCond .eq 19), (12, 0, .aload 0), (13, 457, .getfield 40986), (16, 0, .aload 0), (17, 457, .getfield 40986), (20, 0, .aload 0), (21, 457, .getfield 40986), (24, 349, .getfield 8232), (27, 818, .invokevirtual 143945), (30, 0, .iconst 0), (31, 0, .iconst 0), (32, 836, .invokevirtual 144081), (35, 0, .goto 20), (38, 0, .iconst 0), (39, 0, .ireturn)]
abbrev k_LongBoats_hasOut : Nat := 71
def cd_LongBoats_hasOut : List (Nat × Nat × Instr) := [(0, 0, .aload 0), (1, 0, .iload 1), (2, 0, .iload 2), (3, 0, .iload 3), (4, 0, .iload 4), (6, 806, .invokevirtual 644245), (9, 0, .ifCond .eq 22), (12, 0, .aload 0), (13, 457, .getfield 40986), (16, 0, .aload 0), (17, 457, .getfield 40986), (20, 0, .aload 0), (21, 457, .getfield 40986), (24, 349, .getfield 8232), (27, 818, .invokevirtual 143945), (30, 0, .iconst 0), (31, 0, .iconst 0), (32, 822, .invokevirtual 144145), (35, 0, .iconst 2), (36, 0, .if_icmp .ne 22), (39, 0, .iconst 1), (40, 0, .goto 23), (43, 0, .iconst 0), (44, 0, .areturn)]
abbrev k_LongBoats_closesRing : Nat := 72
def cd_LongBoats_closesRing : List (Nat × Nat × Instr) := [(0, 0, .iload 1), (1, 0, .iconst 1), (2, 0, .iadd), (3, 0, .istore 5), (5, 0, .nop), (5, 0, .iload 5), (7, 0, .aload 0), (8, 453, .getfield 40970), (11, 191, .getfield 20512), (14, 0, .if_icmp .ge 28), (17, 0, .aload 0), (18, 0, .iload 2), (19, 0, .iload 5), (21, 0, .iload 3), (22, 0, .iload 4), (24, 1251, .invokevirtual 644565), (27, 0, .ifCond .eq 26), (30, 0, .aload 0), (31, 0, .iload 5), (33, 0, .iload 1), (34, 0, .iload 3), (35, 0, .iload 4), (37, 1251, .invokevirtual 644565), (40, 0, .ifCond .eq 26), (43, 0, .iload 5), (45, 0, .ireturn), (46, 0, .iinc 5 1), (49, 0, .goto 4), (52, 0, .iconst (-1)), (53, 0, .ireturn)]
abbrev k_LongBoats_edgeWays : Nat := 73
def cd_LongBoats_edgeWays : List (Nat × Nat × Instr) := [(0, 0, .aload 0), (1, 453, .getfield 40970), (4, 0, .iconst 2), (5, 1160, .invokevirtual 338569), (8, 0, .i2l), (9, 0, .iconst 100), (11, 0, .aload 0), (12, 453, .getfield 40970), (15, 185, .getfield 20504), (18, 0, .isub), (19, 0, .iload 1), (20, 1165, .invokestatic 4810), (23, 0, .lmul), (24, 0, .aload 0), (25, 453, .getfield 40970), (28, 185, .getfield 20504), (31, 0, .iload 2), (32, 0, .iload 1), (33, 0, .isub), (34, 1165, .invokestatic 4810), (37, 0, .lmul), (38, 0, .lreturn)]
abbrev k_LongBoats_otherWays : Nat := 74
def cd_LongBoats_otherWays : List (Nat × Nat × Instr) := [(0, 0, .aload 0), (1, 453, .getfield 40970), (4, 191, .getfield 20512), (7, 0, .aload 0), (8, 453, .getfield 40970), (11, 0, .iconst 2), (12, 1160, .invokevirtual 338569), (15, 0, .isub), (16, 0, .i2l), (17, 0, .aload 0), (18, 453, .getfield 40970), (21, 185, .getfield 20504), (24, 0, .iload 1), (25, 1165, .invokestatic 4810), (28, 0, .lmul), (29, 0, .iconst 100), (31, 0, .aload 0), (32, 453, .getfield 40970), (35, 185, .getfield 20504), (38, 0, .isub), (39, 0, .iload 2), (40, 0, .iload 1), (41, 0, .isub), (42, 1165, .invokestatic 4810), (45, 0, .lmul), (46, 0, .lreturn)]
abbrev k_LongBoats_power : Nat := 75
def cd_LongBoats_power : List (Nat × Nat × Instr) := [(0, 0, .ldc2_w 1), (1, 0, .lstore 2), (2, 0, .iconst 0), (3, 0, .istore 4), (5, 0, .nop), (5, 0, .iload 4), (7, 0, .iload 1), (8, 0, .if_icmp .ge 15), (11, 0, .lload 2), (12, 0, .iload 0), (13, 0, .i2l), (14, 0, .lmul), (15, 0, .lstore 2), (16, 0, .iinc 4 1), (19, 0, .goto 4), (22, 0, .lload 2), (23, 0, .lreturn)]
abbrev k_LongBoats_lowest : Nat := 76
def cd_LongBoats_lowest : List (Nat × Nat × Instr) := [(0, 0, .lload 0), (1, 0, .lstore 5), (3, 0, .lload 2), (4, 0, .lstore 7), (6, 0, .iconst 0), (7, 0, .istore 9), (9, 0, .nop), (9, 0, .iload 9), (11, 0, .iconst 200), (14, 0, .if_icmp .ge 24), (17, 0, .lload 7), (19, 0, .ldc2_w 0), (20, 0, .lcmp), (21, 0, .ifCond .eq 24), (24, 0, .lload 5), (26, 0, .lload 7), (28, 0, .lrem), (29, 0, .lstore 10), (31, 0, .lload 7), (33, 0, .lstore 5), (35, 0, .lload 10), (37, 0, .lstore 7), (39, 0, .iinc 9 1), (42, 0, .goto 6), (45, 0, .lload 5), (47, 0, .ldc2_w 0), (48, 0, .lcmp), (49, 0, .ifCond .ne 31), (52, 0, .iload 4), (54, 0, .i2l), (55, 0, .lreturn), (56, 0, .iload 4), (58, 0, .ifCond .ne 35), (61, 0, .lload 0), (62, 0, .goto 36), (65, 0, .lload 2), (66, 0, .lload 5), (68, 0, .ldiv), (69, 0, .lreturn)]
abbrev k_LongBoats_pictureFault : Nat := 77
def cd_LongBoats_pictureFault : List (Nat × Nat × Instr) := [(0, 0, .iload 1), (1, 1185, .invokestatic 20869), (4, 0, .ifCond .eq 8), (7, 0, .aload 0), (8, 453, .getfield 40970), (11, 188, .getfield 20508), (14, 0, .iconst 2), (15, 0, .if_icmp .ge 10), (18, 0, .iconst (-2)), (20, 0, .ireturn), (21, 0, .aload 0), (22, 456, .getfield 40982), (25, 0, .iload 1), (26, 1188, .invokevirtual 532937), (29, 0, .ifCond .ne 17), (32, 0, .iconst (-6)), (34, 0, .ireturn), (35, 0, .aload 0), (36, 456, .getfield 40982), (39, 0, .iload 1), (40, 1194, .invokevirtual 533001), (43, 0, .iconst 3), (44, 0, .irem), (45, 0, .ifCond .eq 26), (48, 0, .iconst (-2)), (50, 0, .ireturn), (51, 0, .iconst 0), (52, 0, .istore 2), (53, 0, .nop), (53, 0, .iload 2), (54, 0, .aload 0), (55, 456, .getfield 40982), (58, 0, .iload 1), (59, 1194, .invokevirtual 533001), (62, 0, .if_icmp .ge 95), (65, 0, .aload 0), (66, 456, .getfield 40982), (69, 0, .iload 1), (70, 0, .iload 2), (71, 1198, .invokevirtual 533326), (74, 0, .lstore 3), (75, 0, .aload 0), (76, 456, .getfield 40982), (79, 0, .iload 1), (80, 0, .iload 2), (81, 0, .iconst 1), (82, 0, .iadd), (83, 1198, .invokevirtual 533326), (86, 0, .lstore 5), (88, 0, .aload 0), (89, 456, .getfield 40982), (92, 0, .iload 1), (93, 0, .iload 2), (94, 0, .iconst 2), (95, 0, .iadd), (96, 1198, .invokevirtual 533326), (99, 0, .lstore 7), (101, 0, .lload 3), (102, 0, .ldc2_w 0), (103, 0, .lcmp), (104, 0, .ifCond .lt 91), (107, 0, .lload 3), (108, 0, .aload 0), (109, 453, .getfield 40970), (112, 191, .getfield 20512), (115, 0, .i2l), (116, 0, .lcmp), (117, 0, .ifCond .ge 91), (120, 0, .lload 5), (122, 0, .ldc2_w 0), (123, 0, .lcmp), (124, 0, .ifCond .lt 91), (127, 0, .lload 5), (129, 0, .aload 0), (130, 453, .getfield 40970), (133, 191, .getfield 20512), (136, 0, .i2l), (137, 0, .lcmp), (138, 0, .ifCond .ge 91), (141, 0, .lload 7), (143, 0, .ldc2_w 0), (144, 0, .lcmp), (145, 0, .ifCond .lt 91), (148, 0, .lload 7), (150, 1205, .ldc2_w 4), (153, 0, .lcmp), (154, 0, .ifCond .gt 91), (157, 0, .lload 3), (158, 0, .lload 5), (160, 0, .lcmp), (161, 0, .ifCond .ne 93), (164, 0, .iconst (-2)), (166, 0, .ireturn), (167, 0, .iinc 2 3), (170, 0, .goto 28), (173, 0, .iconst 0), (174, 0, .ireturn)]
abbrev k_LongBoats_showPicture : Nat := 78
def cd_LongBoats_showPicture : List (Nat × Nat × Instr) := [(0, 0, .aload 0), (1, 0, .aload 0), (2, 456, .getfield 40982), (5, 0, .iload 1), (6, 0, .iload 2), (7, 1198, .invokevirtual 533326), (10, 0, .l2i), (11, 0, .aload 0), (12, 456, .getfield 40982), (15, 0, .iload 1), (16, 0, .iload 2), (17, 0, .iconst 1), (18, 0, .iadd), (19, 1198, .invokevirtual 533326), (22, 0, .l2i), (23, 0, .iconst 0), (24, 0, .iconst 1), (25, 806, .invokevirtual 644245), (28, 0, .pop), (29, 0, .return_)]
abbrev k_LongBoats_gapBits : Nat := 79
def cd_LongBoats_gapBits : List (Nat × Nat × Instr) := [(0, 1210, .iconst 2097151), (3, 0, .istore 2), (4, 0, .iconst 0), (5, 0, .istore 3), (6, 0, .nop), (6, 0, .iload 3), (7, 0, .iconst 2), (8, 0, .iadd), (9, 0, .aload 0), (10, 456, .getfield 40982), (13, 0, .iload 1), (14, 1194, .invokevirtual 533001), (17, 0, .if_icmp .ge 54), (20, 0, .aload 0), (21, 0, .iload 1), (22, 0, .iload 3), (23, 1211, .invokevirtual 645004), (26, 0, .iconst 0), (27, 0, .istore 4), (29, 0, .nop), (29, 0, .iload 4), (31, 0, .iconst 20), (33, 0, .if_icmp .gt 52), (36, 0, .aload 0), (37, 457, .getfield 40986), (40, 0, .aload 0), (41, 457, .getfield 40986), (44, 0, .iload 4), (46, 818, .invokevirtual 143945), (49, 0, .iconst 0), (50, 0, .iconst 0), (51, 822, .invokevirtual 144145), (54, 0, .i2l), (55, 0, .aload 0), (56, 456, .getfield 40982), (59, 0, .iload 1), (60, 0, .iload 3), (61, 0, .iconst 2), (62, 0, .iadd), (63, 1198, .invokevirtual 533326), (66, 0, .lcmp), (67, 0, .ifCond .eq 50), (70, 0, .iload 2), (71, 0, .iconst 1), (72, 0, .iload 4), (74, 0, .ishl), (75, 0, .iconst (-1)), (76, 0, .ixor), (77, 0, .iand), (78, 0, .istore 2), (79, 0, .iinc 4 1), (82, 0, .goto 19), (85, 0, .iinc 3 3), (88, 0, .goto 4), (91, 0, .iload 2), (92, 0, .ireturn)]
abbrev k_LongBoats_isSure : Nat := 80
def cd_LongBoats_isSure : List (Nat × Nat × Instr) := [(0, 0, .aload 0), (1, 0, .iload 1), (2, 0, .iload 2), (3, 1211, .invokevirtual 645004), (6, 0, .iconst 0), (7, 0, .istore 5), (9, 0, .nop), (9, 0, .iload 5), (11, 0, .iconst 20), (13, 0, .if_icmp .gt 38), (16, 0, .iload 4), (18, 0, .iload 5), (20, 0, .ishr), (21, 0, .iconst 1), (22, 0, .iand), (23, 0, .iconst 1), (24, 0, .if_icmp .ne 19), (27, 0, .iconst 1), (28, 0, .goto 20), (31, 0, .iconst 0), (32, 0, .istore 6), (34, 0, .iload 6), (36, 0, .ifCond .eq 36), (39, 0, .aload 0), (40, 457, .getfield 40986), (43, 0, .aload 0), (44, 457, .getfield 40986), (47, 0, .iload 5), (49, 818, .invokevirtual 143945), (52, 0, .iconst 0), (53, 0, .iconst 0), (54, 836, .invokevirtual 144081), (57, 0, .iload 3), (58, 0, .if_icmp .eq 36), (61, 0, .iconst 0), (62, 0, .areturn), (63, 0, .iinc 5 1), (66, 0, .goto 6), (69, 0, .iconst 1), (70, 0, .areturn)]
abbrev k_Model_init : Nat := 81
def cd_Model_init : List (Nat × Nat × Instr) := [(0, 0, .aload 0), (1, 1354, .pop2), (4, 0, .aload 0), (5, 0, .iconst 106), (7, 0, .newarray .int), (9, 1355, .putfield 45062), (12, 0, .aload 0), (13, 0, .iconst 318), (16, 0, .newarray .int), (18, 1356, .putfield 45066), (21, 0, .aload 0), (22, 0, .iconst 3), (23, 0, .newarray .boolean), (25, 1357, .putfield 45070), (28, 0, .aload 0), (29, 0, .iconst 1200), (32, 0, .newarray .byte), (34, 1358, .putfield 45074), (37, 0, .aload 0), (38, 0, .iconst 5), (39, 0, .newarray .int), (41, 1360, .putfield 45082), (44, 0, .aload 0), (45, 0, .iconst (-1)), (46, 1367, .putfield 45108), (49, 0, .aload 0), (50, 0, .iconst 106), (52, 0, .newarray .int), (54, 1368, .putfield 45114), (57, 0, .aload 0), (58, 0, .iconst 100), (60, 0, .newarray .int), (62, 1373, .putfield 45134), (65, 0, .aload 0), (66, 0, .iconst 5), (67, 0, .newarray .int), (69, 1374, .putfield 45138), (72, 0, .aload 0), (73, 0, .iconst 5), (74, 0, .newarray .int), (76, 1375, .putfield 45142), (79, 0, .aload 0), (80, 0, .iconst 10), (82, 0, .newarray .int), (84, 1378, .putfield 45154), (87, 0, .aload 0), (88, 0, .iconst 10), (90, 0, .newarray .int), (92, 1379, .putfield 45158), (95, 0, .aload 0), (96, 0, .iconst 10), (98, 0, .newarray .int), (100, 1380, .putfield 45162), (103, 0, .aload 0), (104, 0, .iconst 10), (106, 0, .newarray .int), (108, 1381, .putfield 45166), (111, 0, .aload 0), (112, 0, .iconst 10), (114, 0, .newarray .int), (116, 1382, .putfield 45170), (119, 0, .aload 0), (120, 0, .iconst 5), (121, 0, .newarray .int), (123, 1386, .putfield 45186), (126, 0, .aload 0), (127, 0, .iconst 4), (128, 0, .newarray .int), (130, 0, .dup), (131, 0, .iconst 0), (132, 0, .iconst (-1)), (133, 0, .iastore), (134, 0, .dup), (135, 0, .iconst 1), (136, 0, .iconst (-1)), (137, 0, .iastore), (138, 0, .dup), (139, 0, .iconst 2), (140, 0, .iconst (-1)), (141, 0, .iastore), (142, 0, .dup), (143, 0, .iconst 3), (144, 0, .iconst (-1)), (145, 0, .iastore), (146, 1389, .putfield 45198), (149, 0, .aload 0), (150, 0, .iconst 4), (151, 0, .newarray .int), (153, 1390, .putfield 45202), (156, 0, .aload 0), (157, 0, .iconst 240), (160, 0, .newarray .long), (162, 1391, .putfield 45206), (165, 0, .aload 0), (166, 0, .iconst 60), (168, 0, .newarray .long), (170, 1392, .putfield 45210), (173, 0, .return_)]
abbrev k_Model_in : Nat := 82
def cd_Model_in : List (Nat × Nat × Instr) := [(0, 0, .lload 0), (1, 0, .lload 2), (2, 0, .lcmp), (3, 0, .ifCond .lt 10), (6, 0, .lload 0), (7, 0, .lload 4), (9, 0, .lcmp), (10, 0, .ifCond .gt 10), (13, 0, .iconst 1), (14, 0, .goto 11), (17, 0, .iconst 0), (18, 0, .areturn)]
abbrev k_Model_image : Nat := 83
def cd_Model_image : List (Nat × Nat × Instr) := [(0, 0, .iload 1), (1, 0, .i2l), (2, 0, .ldc2_w 0), (3, 1477, .ldc2_w 5), (6, 1478, .invokestatic 5261), (9, 0, .ifCond .ne 8), (12, 0, .iconst (-2)), (14, 0, .ireturn), (15, 0, .iconst 0), (16, 0, .istore 2), (17, 0, .nop), (17, 0, .iload 2), (18, 0, .iconst 106), (20, 0, .if_icmp .ge 28), (23, 0, .aload 0), (24, 1356, .getfield 45066), (27, 0, .iconst 106), (29, 0, .iload 1), (30, 0, .imul), (31, 0, .iload 2), (32, 0, .iadd), (33, 0, .aload 0), (34, 1355, .getfield 45062), (37, 0, .iload 2), (38, 0, .iaload), (39, 0, .iastore), (40, 0, .iinc 2 1), (43, 0, .goto 10), (46, 0, .aload 0), (47, 1357, .getfield 45070), (50, 0, .iload 1), (51, 0, .iconst 1), (52, 0, .bastore), (53, 0, .iconst 0), (54, 0, .ireturn)]
abbrev k_Model_back : Nat := 84
def cd_Model_back : List (Nat × Nat × Instr) := [(0, 0, .iload 1), (1, 0, .i2l), (2, 0, .ldc2_w 0), (3, 1477, .ldc2_w 5), (6, 1478, .invokestatic 5261), (9, 0, .ifCond .ne 8), (12, 0, .iconst (-2)), (14, 0, .ireturn), (15, 0, .aload 0), (16, 1357, .getfield 45070), (19, 0, .iload 1), (20, 0, .baload), (21, 0, .ifCond .ne 15), (24, 0, .iconst (-6)), (26, 0, .ireturn), (27, 0, .iconst 0), (28, 0, .istore 2), (29, 0, .nop), (29, 0, .iload 2), (30, 0, .iconst 106), (32, 0, .if_icmp .ge 35), (35, 0, .aload 0), (36, 1355, .getfield 45062), (39, 0, .iload 2), (40, 0, .aload 0), (41, 1356, .getfield 45066), (44, 0, .iconst 106), (46, 0, .iload 1), (47, 0, .imul), (48, 0, .iload 2), (49, 0, .iadd), (50, 0, .iaload), (51, 0, .iastore), (52, 0, .iinc 2 1), (55, 0, .goto 17), (58, 0, .iconst 0), (59, 0, .ireturn)]
abbrev k_Model_isHarbour : Nat := 85
def cd_Model_isHarbour : List (Nat × Nat × Instr) := [(0, 0, .aload 0), (1, 1355, .getfield 45062), (4, 0, .iconst 9), (6, 0, .iaload), (7, 0, .ifCond .le 7), (10, 0, .iconst 1), (11, 0, .goto 8), (14, 0, .iconst 0), (15, 0, .areturn)]
abbrev k_Model_isBoat : Nat := 86
def cd_Model_isBoat : List (Nat × Nat × Instr) := [(0, 0, .iload 1), (1, 0, .i2l), (2, 0, .ldc2_w 0), (3, 0, .aload 0), (4, 1355, .getfield 45062), (7, 0, .iconst 6), (9, 0, .iaload), (10, 0, .iconst 1), (11, 0, .isub), (12, 0, .i2l), (13, 1478, .invokestatic 5261), (16, 0, .areturn)]
abbrev k_Model_isMan : Nat := 87
def cd_Model_isMan : List (Nat × Nat × Instr) := [(0, 0, .lload 1), (1, 0, .ldc2_w 0), (2, 0, .aload 0), (3, 1355, .getfield 45062), (6, 0, .iconst 7), (8, 0, .iaload), (9, 0, .iconst 1), (10, 0, .isub), (11, 0, .i2l), (12, 1478, .invokestatic 5261), (15, 0, .areturn)]
abbrev k_Model_isTeam : Nat := 88
def cd_Model_isTeam : List (Nat × Nat × Instr) := [(0, 0, .iload 1), (1, 0, .i2l), (2, 0, .ldc2_w 0), (3, 0, .aload 0), (4, 1355, .getfield 45062), (7, 0, .iconst 8), (9, 0, .iaload), (10, 0, .iconst 1), (11, 0, .isub), (12, 0, .i2l), (13, 1478, .invokestatic 5261), (16, 0, .areturn)]
abbrev k_Model_of : Nat := 89
def cd_Model_of : List (Nat × Nat × Instr) := [(0, 0, .aload 0), (1, 1355, .getfield 45062), (4, 0, .iconst 18), (6, 0, .iconst 6), (8, 0, .iload 1), (9, 0, .imul), (10, 0, .iadd), (11, 0, .iload 2), (12, 0, .iadd), (13, 0, .iaload), (14, 0, .ireturn)]
abbrev k_Model_set : Nat := 90
def cd_Model_set : List (Nat × Nat × Instr) := [(0, 0, .aload 0), (1, 1355, .getfield 45062), (4, 0, .iconst 18), (6, 0, .iconst 6), (8, 0, .iload 1), (9, 0, .imul), (10, 0, .iadd), (11, 0, .iload 2), (12, 0, .iadd), (13, 0, .iload 3), (14, 0, .iastore), (15, 0, .return_)]
abbrev k_Model_oarsOf : Nat := 91
def cd_Model_oarsOf : List (Nat × Nat × Instr) := [(0, 0, .aload 0), (1, 1355, .getfield 45062), (4, 0, .iconst 10), (6, 0, .iconst 2), (7, 0, .iload 1), (8, 0, .imul), (9, 0, .iadd), (10, 0, .iaload), (11, 0, .ireturn)]
abbrev k_Model_slipOf : Nat := 92
def cd_Model_slipOf : List (Nat × Nat × Instr) := [(0, 0, .aload 0), (1, 1355, .getfield 45062), (4, 0, .iconst 10), (6, 0, .iconst 2), (7, 0, .iload 1), (8, 0, .imul), (9, 0, .iadd), (10, 0, .iconst 1), (11, 0, .iadd), (12, 0, .iaload), (13, 0, .ireturn)]
abbrev k_Model_boatOf : Nat := 93
def cd_Model_boatOf : List (Nat × Nat × Instr) := [(0, 0, .aload 0), (1, 1355, .getfield 45062), (4, 0, .iconst 78), (6, 0, .iconst 7), (8, 0, .iload 1), (9, 0, .imul), (10, 0, .iadd), (11, 0, .iaload), (12, 0, .ireturn)]
abbrev k_Model_manyOf : Nat := 94
def cd_Model_manyOf : List (Nat × Nat × Instr) := [(0, 0, .aload 0), (1, 1355, .getfield 45062), (4, 0, .iconst 78), (6, 0, .iconst 7), (8, 0, .iload 1), (9, 0, .imul), (10, 0, .iadd), (11, 0, .iconst 1), (12, 0, .iadd), (13, 0, .iaload), (14, 0, .ireturn)]
abbrev k_Model_memberOf : Nat := 95
def cd_Model_memberOf : List (Nat × Nat × Instr) := [(0, 0, .aload 0), (1, 1355, .getfield 45062), (4, 0, .iconst 78), (6, 0, .iconst 7), (8, 0, .iload 1), (9, 0, .imul), (10, 0, .iadd), (11, 0, .iconst 2), (12, 0, .iadd), (13, 0, .iload 2), (14, 0, .iadd), (15, 0, .iaload), (16, 0, .ireturn)]
abbrev k_Model_feed : Nat := 96
def cd_Model_feed : List (Nat × Nat × Instr) := [(0, 0, .aload 0), (1, 1359, .getfield 45076), (4, 0, .iconst 20), (6, 0, .iadd), (7, 0, .iconst 1200), (10, 0, .if_icmp .le 8), (13, 0, .iconst (-1)), (14, 0, .ireturn), (15, 0, .aload 0), (16, 1360, .getfield 45082), (19, 0, .iconst 0), (20, 0, .iload 1), (21, 0, .iastore), (22, 0, .aload 0), (23, 1360, .getfield 45082), (26, 0, .iconst 1), (27, 0, .iload 2), (28, 0, .iastore), (29, 0, .aload 0), (30, 1360, .getfield 45082), (33, 0, .iconst 2), (34, 0, .iload 3), (35, 0, .iastore), (36, 0, .aload 0), (37, 1360, .getfield 45082), (40, 0, .iconst 3), (41, 0, .iload 4), (43, 0, .iastore), (44, 0, .aload 0), (45, 1360, .getfield 45082), (48, 0, .iconst 4), (49, 0, .iload 5), (51, 0, .iastore), (52, 0, .iconst 0), (53, 0, .istore 6), (55, 0, .nop), (55, 0, .iload 6), (57, 0, .iconst 20), (59, 0, .if_icmp .ge 63), (62, 0, .aload 0), (63, 1358, .getfield 45074), (66, 0, .aload 0), (67, 1359, .getfield 45076), (70, 0, .iload 6), (72, 0, .iadd), (73, 0, .aload 0), (74, 1360, .getfield 45082), (77, 0, .iload 6), (79, 0, .iconst 4), (80, 0, .idiv), (81, 0, .iaload), (82, 0, .iconst 24), (84, 0, .iconst 8), (86, 0, .iload 6), (88, 0, .iconst 4), (89, 0, .irem), (90, 0, .imul), (91, 0, .isub), (92, 0, .ishr), (93, 0, .i2b), (94, 0, .bastore), (95, 0, .iinc 6 1), (98, 0, .goto 35), (101, 0, .aload 0), (102, 0, .dup), (103, 1359, .getfield 45076), (106, 0, .iconst 20), (108, 0, .iadd), (109, 1359, .putfield 45076), (112, 0, .aload 0), (113, 1359, .getfield 45076), (116, 0, .ireturn)]
abbrev k_Model_end : Nat := 97
def cd_Model_end : List (Nat × Nat × Instr) := [(0, 0, .iload 1), (1, 0, .i2l), (2, 0, .ldc2_w 0), (3, 0, .aload 0), (4, 1359, .getfield 45076), (7, 0, .i2l), (8, 1478, .invokestatic 5261), (11, 0, .ifCond .ne 10), (14, 0, .iconst (-1)), (15, 0, .ireturn), (16, 0, .aload 0), (17, 0, .iload 1), (18, 1359, .putfield 45076), (21, 0, .iload 1), (22, 0, .ireturn)]
abbrev k_Model_see : Nat := 98
def cd_Model_see : List (Nat × Nat × Instr) := [(0, 0, .iload 1), (1, 0, .aload 0), (2, 1361, .getfield 45084), (5, 0, .if_icmp .ge 11), (8, 0, .aload 0), (9, 1358, .getfield 45074), (12, 0, .iload 1), (13, 0, .baload), (14, 0, .iconst 255), (17, 0, .iand), (18, 0, .goto 12), (21, 0, .iconst (-1)), (22, 0, .ireturn)]
abbrev k_Model_advance : Nat := 99
def cd_Model_advance : List (Nat × Nat × Instr) := [(0, 0, .nop), (0, 0, .aload 0), (1, 0, .aload 0), (2, 1362, .getfield 45088), (5, 1505, .invokevirtual 710281), (8, 0, .iconst 32), (10, 0, .if_icmp .eq 13), (13, 0, .aload 0), (14, 0, .aload 0), (15, 1362, .getfield 45088), (18, 1505, .invokevirtual 710281), (21, 0, .iconst 10), (23, 0, .if_icmp .ne 20), (26, 0, .aload 0), (27, 0, .dup), (28, 1362, .getfield 45088), (31, 0, .iconst 1), (32, 0, .iadd), (33, 1362, .putfield 45088), (36, 0, .goto 0), (39, 0, .aload 0), (40, 0, .aload 0), (41, 1362, .getfield 45088), (44, 1363, .putfield 45092), (47, 0, .aload 0), (48, 0, .aload 0), (49, 1362, .getfield 45088), (52, 1505, .invokevirtual 710281), (55, 0, .istore 1), (56, 0, .iload 1), (57, 0, .iconst (-1)), (58, 0, .if_icmp .ne 36), (61, 0, .aload 0), (62, 0, .iconst 0), (63, 1364, .putfield 45096), (66, 0, .goto 122), (69, 0, .iload 1), (70, 0, .i2l), (71, 1509, .ldc2_w 6), (74, 1510, .ldc2_w 7), (77, 1478, .invokestatic 5261), (80, 0, .ifCond .eq 63), (83, 0, .nop), (83, 0, .aload 0), (84, 0, .aload 0), (85, 1362, .getfield 45088), (88, 1505, .invokevirtual 710281), (91, 0, .i2l), (92, 1509, .ldc2_w 6), (95, 1510, .ldc2_w 7), (98, 1478, .invokestatic 5261), (101, 0, .ifCond .eq 59), (104, 0, .aload 0), (105, 0, .dup), (106, 1362, .getfield 45088), (109, 0, .iconst 1), (110, 0, .iadd), (111, 1362, .putfield 45088), (114, 0, .goto 42), (117, 0, .aload 0), (118, 0, .iconst 1), (119, 1364, .putfield 45096), (122, 0, .goto 122), (125, 0, .iload 1), (126, 0, .i2l), (127, 1511, .ldc2_w 8), (130, 1512, .ldc2_w 9), (133, 1478, .invokestatic 5261), (136, 0, .ifCond .eq 108), (139, 0, .aload 0), (140, 0, .iconst 0), (141, 1365, .putfield 45100), (144, 0, .nop), (144, 0, .aload 0), (145, 0, .aload 0), (146, 1362, .getfield 45088), (149, 1505, .invokevirtual 710281), (152, 0, .i2l), (153, 1511, .ldc2_w 8), (156, 1512, .ldc2_w 9), (159, 1478, .invokestatic 5261), (162, 0, .ifCond .eq 104), (165, 0, .aload 0), (166, 1513, .iconst 99999), (168, 0, .iconst 10), (170, 0, .aload 0), (171, 1365, .getfield 45100), (174, 0, .imul), (175, 0, .aload 0), (176, 0, .aload 0), (177, 1362, .getfield 45088), (180, 1505, .invokevirtual 710281), (183, 0, .iadd), (184, 0, .iconst 48), (186, 0, .isub), (187, 1514, .invokedynamic 0), (190, 1365, .putfield 45100), (193, 0, .aload 0), (194, 0, .dup), (195, 1362, .getfield 45088), (198, 0, .iconst 1), (199, 0, .iadd), (200, 1362, .putfield 45088), (203, 0, .goto 72), (206, 0, .aload 0), (207, 0, .iconst 2), (208, 1364, .putfield 45096), (211, 0, .goto 122), (214, 0, .aload 0), (215, 0, .iload 1), (216, 0, .iconst 59), (218, 0, .if_icmp .ne 114), (221, 0, .iconst 3), (222, 0, .goto 115), (225, 0, .iconst 4), (226, 1364, .putfield 45096), (229, 0, .aload 0), (230, 0, .dup), (231, 1362, .getfield 45088), (234, 0, .iconst 1), (235, 0, .iadd), (236, 1362, .putfield 45088), (239, 0, .return_)]
abbrev k_Model_good : Nat := 100
def cd_Model_good : List (Nat × Nat × Instr) := [(0, 0, .aload 0), (1, 1366, .getfield 45104), (4, 0, .ifCond .ne 5), (7, 0, .iconst 1), (8, 0, .goto 6), (11, 0, .iconst 0), (12, 0, .areturn)]
abbrev k_Model_errs : Nat := 101
def cd_Model_errs : List (Nat × Nat × Instr) := [(0, 0, .aload 0), (1, 1515, .invokevirtual 710405), (4, 0, .ifCond .ne 4), (7, 0, .return_), (8, 0, .aload 0), (9, 0, .iload 1), (10, 1366, .putfield 45104), (13, 0, .aload 0), (14, 0, .aload 0), (15, 1363, .getfield 45092), (18, 1367, .putfield 45108), (21, 0, .return_)]
abbrev k_Model_is : Nat := 102
def cd_Model_is : List (Nat × Nat × Instr) := [(0, 0, .aload 0), (1, 1515, .invokevirtual 710405), (4, 0, .ifCond .eq 17), (7, 0, .aload 0), (8, 1364, .getfield 45096), (11, 0, .iconst 1), (12, 0, .if_icmp .ne 17), (15, 0, .aload 0), (16, 1362, .getfield 45088), (19, 0, .aload 0), (20, 1363, .getfield 45092), (23, 0, .isub), (24, 0, .aload 1), (25, 1536, .invokedynamic 3), (28, 0, .if_icmp .ne 17), (31, 0, .iconst 1), (32, 0, .goto 18), (35, 0, .iconst 0), (36, 0, .istore 2), (37, 0, .iconst 0), (38, 0, .istore 3), (39, 0, .nop), (39, 0, .iload 3), (40, 0, .aload 1), (41, 1536, .invokedynamic 3), (44, 0, .if_icmp .ge 45), (47, 0, .iload 2), (48, 0, .ifCond .eq 45), (51, 0, .aload 0), (52, 1358, .getfield 45074), (55, 0, .aload 0), (56, 1363, .getfield 45092), (59, 0, .iload 3), (60, 0, .iadd), (61, 0, .baload), (62, 0, .aload 1), (63, 0, .iload 3), (64, 1537, .invokedynamic 4), (67, 0, .if_icmp .ne 41), (70, 0, .iconst 1), (71, 0, .goto 42), (74, 0, .iconst 0), (75, 0, .istore 2), (76, 0, .iinc 3 1), (79, 0, .goto 21), (82, 0, .iload 2), (83, 0, .areturn)]
abbrev k_Model_takes : Nat := 103
def cd_Model_takes : List (Nat × Nat × Instr) := [(0, 0, .aload 0), (1, 0, .aload 1), (2, 1532, .invokevirtual 710537), (5, 0, .istore 2), (6, 0, .iload 2), (7, 0, .ifCond .eq 8), (10, 0, .aload 0), (11, 1501, .invokevirtual 710340), (14, 0, .iload 2), (15, 0, .areturn)]
abbrev k_Model_needs : Nat := 104
def cd_Model_needs : List (Nat × Nat × Instr) := [(0, 0, .aload 0), (1, 0, .aload 1), (2, 1528, .invokevirtual 710601), (5, 0, .ifCond .ne 7), (8, 0, .aload 0), (9, 0, .iconst 1), (10, 1538, .invokevirtual 710472), (13, 0, .return_)]
abbrev k_Model_number : Nat := 105
def cd_Model_number : List (Nat × Nat × Instr) := [(0, 0, .aload 0), (1, 1515, .invokevirtual 710405), (4, 0, .ifCond .eq 10), (7, 0, .aload 0), (8, 1364, .getfield 45096), (11, 0, .iconst 2), (12, 0, .if_icmp .eq 10), (15, 0, .aload 0), (16, 0, .iconst 1), (17, 1538, .invokevirtual 710472), (20, 0, .aload 0), (21, 1515, .invokevirtual 710405), (24, 0, .ifCond .eq 25), (27, 0, .aload 0), (28, 1365, .getfield 45100), (31, 0, .i2l), (32, 0, .iload 1), (33, 0, .i2l), (34, 0, .iload 2), (35, 0, .i2l), (36, 1478, .invokestatic 5261), (39, 0, .ifCond .ne 25), (42, 0, .aload 0), (43, 0, .iconst 2), (44, 1538, .invokevirtual 710472), (47, 0, .aload 0), (48, 1515, .invokevirtual 710405), (51, 0, .ifCond .ne 30), (54, 0, .iconst 0), (55, 0, .ireturn), (56, 0, .aload 0), (57, 1365, .getfield 45100), (60, 0, .istore 3), (61, 0, .aload 0), (62, 1501, .invokevirtual 710340), (65, 0, .iload 3), (66, 0, .ireturn)]
abbrev k_Model_told : Nat := 106
def cd_Model_told : List (Nat × Nat × Instr) := [(0, 0, .aload 0), (1, 0, .aload 1), (2, 1524, .invokevirtual 710664), (5, 0, .aload 0), (6, 0, .iload 2), (7, 0, .iload 3), (8, 1547, .invokevirtual 710733), (11, 0, .ireturn)]
abbrev k_Model_fault : Nat := 107
def cd_Model_fault : List (Nat × Nat × Instr) := [(0, 0, .iload 1), (1, 0, .ifCond .ne 5), (4, 0, .aload 0), (5, 1366, .getfield 45104), (8, 0, .goto 12), (11, 0, .iload 1), (12, 0, .iconst 1), (13, 0, .if_icmp .ne 11), (16, 0, .aload 0), (17, 1367, .getfield 45108), (20, 0, .goto 12), (23, 0, .iconst (-1)), (24, 0, .ireturn)]
abbrev k_Model_readMan : Nat := 108
def cd_Model_readMan : List (Nat × Nat × Instr) := [(0, 0, .iconst 18), (2, 0, .iconst 6), (4, 0, .aload 0), (5, 1368, .getfield 45114), (8, 0, .iconst 7), (10, 0, .iaload), (11, 0, .imul), (12, 0, .iadd), (13, 0, .istore 1), (14, 0, .aload 0), (15, 1368, .getfield 45114), (18, 0, .iload 1), (19, 0, .iconst 0), (20, 0, .iadd), (21, 0, .aload 0), (22, 1573, .ldc 1), (24, 0, .iconst 40), (26, 0, .iconst 200), (29, 1543, .invokevirtual 710801), (32, 0, .iastore), (33, 0, .aload 0), (34, 1368, .getfield 45114), (37, 0, .iload 1), (38, 0, .iconst 1), (39, 0, .iadd), (40, 0, .aload 0), (41, 1574, .ldc 2), (43, 0, .iconst 0), (44, 0, .iconst 30), (46, 1543, .invokevirtual 710801), (49, 0, .iastore), (50, 0, .aload 0), (51, 1368, .getfield 45114), (54, 0, .iload 1), (55, 0, .iconst 2), (56, 0, .iadd), (57, 0, .aload 0), (58, 1575, .ldc 3), (60, 0, .iconst 0), (61, 0, .iconst 30), (63, 1543, .invokevirtual 710801), (66, 0, .iastore), (67, 0, .aload 0), (68, 1368, .getfield 45114), (71, 0, .iload 1), (72, 0, .iconst 3), (73, 0, .iadd), (74, 0, .aload 0), (75, 1576, .ldc 4), (77, 0, .iconst 0), (78, 0, .iconst 9), (80, 1543, .invokevirtual 710801), (83, 0, .iastore), (84, 0, .aload 0), (85, 1368, .getfield 45114), (88, 0, .iload 1), (89, 0, .iconst 4), (90, 0, .iadd), (91, 0, .aload 0), (92, 1577, .ldc 5), (94, 0, .iconst 0), (95, 0, .iconst 4), (96, 1543, .invokevirtual 710801), (99, 0, .iastore), (100, 0, .aload 0), (101, 1578, .ldc 6), (103, 1524, .invokevirtual 710664), (106, 0, .aload 0), (107, 1579, .ldc 7), (109, 1528, .invokevirtual 710601), (112, 0, .ifCond .eq 79), (115, 0, .aload 0), (116, 1368, .getfield 45114), (119, 0, .iload 1), (120, 0, .iconst 5), (121, 0, .iadd), (122, 0, .iconst 0), (123, 0, .iastore), (124, 0, .goto 101), (127, 0, .aload 0), (128, 1580, .ldc 8), (130, 1528, .invokevirtual 710601), (133, 0, .ifCond .eq 91), (136, 0, .aload 0), (137, 1368, .getfield 45114), (140, 0, .iload 1), (141, 0, .iconst 5), (142, 0, .iadd), (143, 0, .iconst 1), (144, 0, .iastore), (145, 0, .goto 101), (148, 0, .aload 0), (149, 1581, .ldc 9), (151, 1524, .invokevirtual 710664), (154, 0, .aload 0), (155, 1368, .getfield 45114), (158, 0, .iload 1), (159, 0, .iconst 5), (160, 0, .iadd), (161, 0, .iconst 2), (162, 0, .iastore), (163, 0, .aload 0), (164, 1368, .getfield 45114), (167, 0, .iconst 7), (169, 0, .dup2), (170, 0, .iaload), (171, 0, .iconst 1), (172, 0, .iadd), (173, 0, .iastore), (174, 0, .return_)]
abbrev k_Model_readTeam : Nat := 109
def cd_Model_readTeam : List (Nat × Nat × Instr) := [(0, 0, .iconst 78), (2, 0, .iconst 7), (4, 0, .aload 0), (5, 1368, .getfield 45114), (8, 0, .iconst 8), (10, 0, .iaload), (11, 0, .imul), (12, 0, .iadd), (13, 0, .istore 1), (14, 0, .aload 0), (15, 1368, .getfield 45114), (18, 0, .iload 1), (19, 0, .aload 0), (20, 0, .iconst 0), (21, 0, .aload 0), (22, 1368, .getfield 45114), (25, 0, .iconst 6), (27, 0, .iaload), (28, 0, .iconst 1), (29, 0, .isub), (30, 1547, .invokevirtual 710733), (33, 0, .iastore), (34, 0, .iconst 0), (35, 0, .istore 2), (36, 0, .iconst 0), (37, 0, .istore 3), (38, 0, .nop), (38, 0, .aload 0), (39, 1515, .invokevirtual 710405), (42, 0, .ifCond .eq 49), (45, 0, .aload 0), (46, 1364, .getfield 45096), (49, 0, .iconst 2), (50, 0, .if_icmp .ne 49), (53, 0, .aload 0), (54, 1365, .getfield 45100), (57, 0, .i2l), (58, 0, .ldc2_w 0), (59, 0, .aload 0), (60, 1368, .getfield 45114), (63, 0, .iconst 7), (65, 0, .iaload), (66, 0, .iconst 1), (67, 0, .isub), (68, 0, .i2l), (69, 1478, .invokestatic 5261), (72, 0, .ifCond .eq 49), (75, 0, .iconst 1), (76, 0, .goto 50), (79, 0, .iconst 0), (80, 0, .istore 4), (82, 0, .nop), (82, 0, .iload 4), (84, 0, .ifCond .eq 65), (87, 0, .iload 2), (88, 0, .aload 0), (89, 1365, .getfield 45100), (92, 0, .ishr), (93, 0, .iconst 1), (94, 0, .iand), (95, 0, .iconst 1), (96, 0, .if_icmp .ne 65), (99, 0, .aload 0), (100, 0, .iconst 2), (101, 1538, .invokevirtual 710472), (104, 0, .nop), (104, 0, .iload 4), (106, 0, .ifCond .eq 74), (109, 0, .iload 3), (110, 0, .iconst 5), (111, 0, .if_icmp .ne 74), (114, 0, .aload 0), (115, 0, .iconst 3), (116, 1538, .invokevirtual 710472), (119, 0, .nop), (119, 0, .aload 0), (120, 0, .iconst 0), (121, 0, .aload 0), (122, 1368, .getfield 45114), (125, 0, .iconst 7), (127, 0, .iaload), (128, 0, .iconst 1), (129, 0, .isub), (130, 1547, .invokevirtual 710733), (133, 0, .istore 5), (135, 0, .aload 0), (136, 1515, .invokevirtual 710405), (139, 0, .ifCond .ne 89), (142, 0, .return_), (143, 0, .iload 2), (144, 0, .iconst 1), (145, 0, .iload 5), (147, 0, .ishl), (148, 0, .ior), (149, 0, .istore 2), (150, 0, .aload 0), (151, 1368, .getfield 45114), (154, 0, .iload 1), (155, 0, .iconst 2), (156, 0, .iadd), (157, 0, .iload 3), (158, 0, .iadd), (159, 0, .iload 5), (161, 0, .iastore), (162, 0, .iinc 3 1), (165, 0, .aload 0), (166, 1364, .getfield 45096), (169, 0, .iconst 2), (170, 0, .if_icmp .eq 26), (173, 0, .aload 0), (174, 1368, .getfield 45114), (177, 0, .iload 1), (178, 0, .iconst 1), (179, 0, .iadd), (180, 0, .iload 3), (181, 0, .iastore), (182, 0, .aload 0), (183, 1368, .getfield 45114), (186, 0, .iconst 8), (188, 0, .dup2), (189, 0, .iaload), (190, 0, .iconst 1), (191, 0, .iadd), (192, 0, .iastore), (193, 0, .return_)]
abbrev k_Model_readReach : Nat := 110
def cd_Model_readReach : List (Nat × Nat × Instr) := [(0, 0, .aload 0), (1, 0, .iconst 0), (2, 0, .iconst 12), (4, 1547, .invokevirtual 710733), (7, 0, .istore 1), (8, 0, .aload 0), (9, 1566, .ldc 10), (11, 0, .iload 1), (12, 0, .iconst 12), (14, 1543, .invokevirtual 710801), (17, 0, .istore 2), (18, 0, .aload 0), (19, 1515, .invokevirtual 710405), (22, 0, .ifCond .ne 15), (25, 0, .return_), (26, 0, .aload 0), (27, 1368, .getfield 45114), (30, 0, .iconst 3), (31, 0, .iload 1), (32, 0, .iastore), (33, 0, .aload 0), (34, 1368, .getfield 45114), (37, 0, .iconst 4), (38, 0, .iload 2), (39, 0, .iastore), (40, 0, .return_)]
abbrev k_Model_readNext : Nat := 111
def cd_Model_readNext : List (Nat × Nat × Instr) := [(0, 0, .aload 0), (1, 1557, .ldc 11), (3, 1532, .invokevirtual 710537), (6, 0, .ifCond .ne 20), (9, 0, .aload 0), (10, 1558, .ldc 12), (12, 1532, .invokevirtual 710537), (15, 0, .ifCond .ne 20), (18, 0, .aload 0), (19, 1559, .ldc 13), (21, 1532, .invokevirtual 710537), (24, 0, .ifCond .ne 20), (27, 0, .aload 0), (28, 1560, .ldc 14), (30, 1532, .invokevirtual 710537), (33, 0, .ifCond .ne 20), (36, 0, .aload 0), (37, 1561, .ldc 15), (39, 1532, .invokevirtual 710537), (42, 0, .ifCond .eq 22), (45, 0, .iconst 1), (46, 0, .goto 23), (49, 0, .iconst 0), (50, 0, .istore 1), (51, 0, .nop), (51, 0, .iload 1), (52, 0, .ifCond .ne 30), (55, 0, .aload 0), (56, 0, .iconst 1), (57, 1538, .invokevirtual 710472), (60, 0, .nop), (60, 0, .aload 0), (61, 1558, .ldc 12), (63, 1532, .invokevirtual 710537), (66, 0, .ifCond .eq 41), (69, 0, .aload 0), (70, 1368, .getfield 45114), (73, 0, .iconst 6), (75, 0, .iaload), (76, 0, .iconst 4), (77, 0, .if_icmp .eq 61), (80, 0, .aload 0), (81, 1559, .ldc 13), (83, 1532, .invokevirtual 710537), (86, 0, .ifCond .eq 51), (89, 0, .aload 0), (90, 1368, .getfield 45114), (93, 0, .iconst 7), (95, 0, .iaload), (96, 0, .iconst 10), (98, 0, .if_icmp .eq 61), (101, 0, .aload 0), (102, 1560, .ldc 14), (104, 1532, .invokevirtual 710537), (107, 0, .ifCond .eq 64), (110, 0, .aload 0), (111, 1368, .getfield 45114), (114, 0, .iconst 8), (116, 0, .iaload), (117, 0, .iconst 4), (118, 0, .if_icmp .ne 64), (121, 0, .aload 0), (122, 0, .iconst 3), (123, 1538, .invokevirtual 710472), (126, 0, .nop), (126, 0, .aload 0), (127, 1515, .invokevirtual 710405), (130, 0, .ifCond .ne 69), (133, 0, .return_), (134, 0, .nop), (134, 0, .aload 0), (135, 1557, .ldc 11), (137, 1528, .invokevirtual 710601), (140, 0, .ifCond .eq 77), (143, 0, .aload 0), (144, 1562, .invokevirtual 711044), (147, 0, .goto 143), (150, 0, .aload 0), (151, 1558, .ldc 12), (153, 1528, .invokevirtual 710601), (156, 0, .ifCond .eq 119), (159, 0, .iconst 10), (161, 0, .iconst 2), (162, 0, .aload 0), (163, 1368, .getfield 45114), (166, 0, .iconst 6), (168, 0, .iaload), (169, 0, .imul), (170, 0, .iadd), (171, 0, .istore 2), (172, 0, .aload 0), (173, 1368, .getfield 45114), (176, 0, .iload 2), (177, 0, .aload 0), (178, 1567, .ldc 16), (180, 0, .iconst 2), (181, 0, .iconst 12), (183, 1543, .invokevirtual 710801), (186, 0, .iastore), (187, 0, .aload 0), (188, 1368, .getfield 45114), (191, 0, .iload 2), (192, 0, .iconst 1), (193, 0, .iadd), (194, 0, .aload 0), (195, 1568, .ldc 17), (197, 0, .iconst 0), (198, 0, .iconst 4), (199, 1543, .invokevirtual 710801), (202, 0, .iastore), (203, 0, .aload 0), (204, 1368, .getfield 45114), (207, 0, .iconst 6), (209, 0, .dup2), (210, 0, .iaload), (211, 0, .iconst 1), (212, 0, .iadd), (213, 0, .iastore), (214, 0, .goto 143), (217, 0, .aload 0), (218, 1559, .ldc 13), (220, 1528, .invokevirtual 710601), (223, 0, .ifCond .eq 126), (226, 0, .aload 0), (227, 1569, .invokevirtual 710916), (230, 0, .goto 143), (233, 0, .aload 0), (234, 1560, .ldc 14), (236, 1528, .invokevirtual 710601), (239, 0, .ifCond .eq 133), (242, 0, .aload 0), (243, 1582, .invokevirtual 710980), (246, 0, .goto 143), (249, 0, .aload 0), (250, 1501, .invokevirtual 710340), (253, 0, .aload 0), (254, 1368, .getfield 45114), (257, 0, .iconst 5), (258, 0, .aload 0), (259, 0, .iconst 0), (260, 0, .iconst 50), (262, 1547, .invokevirtual 710733), (265, 0, .iastore), (266, 0, .return_)]
abbrev k_Model_readLine : Nat := 112
def cd_Model_readLine : List (Nat × Nat × Instr) := [(0, 0, .aload 0), (1, 1368, .getfield 45114), (4, 0, .iconst 9), (6, 0, .iaload), (7, 0, .ifCond .ne 46), (10, 0, .aload 0), (11, 1523, .ldc 18), (13, 1524, .invokevirtual 710664), (16, 0, .aload 0), (17, 1368, .getfield 45114), (20, 0, .iconst 0), (21, 0, .aload 0), (22, 1542, .ldc 19), (24, 0, .iconst 0), (25, 0, .iconst 9), (27, 1543, .invokevirtual 710801), (30, 0, .iastore), (31, 0, .aload 0), (32, 1368, .getfield 45114), (35, 0, .iconst 1), (36, 0, .aload 0), (37, 1551, .ldc 20), (39, 0, .iconst 0), (40, 0, .iconst 12), (42, 1543, .invokevirtual 710801), (45, 0, .iastore), (46, 0, .aload 0), (47, 1368, .getfield 45114), (50, 0, .iconst 2), (51, 0, .aload 0), (52, 1552, .ldc 21), (54, 0, .iconst 1), (55, 0, .iconst 7), (57, 1543, .invokevirtual 710801), (60, 0, .iastore), (61, 0, .aload 0), (62, 1368, .getfield 45114), (65, 0, .iconst 3), (66, 0, .iconst 2), (67, 0, .iastore), (68, 0, .aload 0), (69, 1368, .getfield 45114), (72, 0, .iconst 4), (73, 0, .iconst 4), (74, 0, .iastore), (75, 0, .goto 48), (78, 0, .aload 0), (79, 1553, .invokevirtual 711108), (82, 0, .aload 0), (83, 1515, .invokevirtual 710405), (86, 0, .ifCond .eq 58), (89, 0, .aload 0), (90, 1364, .getfield 45096), (93, 0, .iconst 3), (94, 0, .if_icmp .eq 58), (97, 0, .aload 0), (98, 0, .iconst 1), (99, 1538, .invokevirtual 710472), (102, 0, .aload 0), (103, 1515, .invokevirtual 710405), (106, 0, .ifCond .eq 63), (109, 0, .aload 0), (110, 1501, .invokevirtual 710340), (113, 0, .aload 0), (114, 1368, .getfield 45114), (117, 0, .iconst 9), (119, 0, .dup2), (120, 0, .iaload), (121, 0, .iconst 1), (122, 0, .iadd), (123, 0, .iastore), (124, 0, .return_)]
abbrev k_Model_harbour : Nat := 113
def cd_Model_harbour : List (Nat × Nat × Instr) := [(0, 0, .aload 0), (1, 0, .aload 0), (2, 1359, .getfield 45076), (5, 1361, .putfield 45084), (8, 0, .aload 0), (9, 0, .iconst 0), (10, 1359, .putfield 45076), (13, 0, .aload 0), (14, 0, .iconst 0), (15, 1362, .putfield 45088), (18, 0, .aload 0), (19, 0, .iconst 0), (20, 1366, .putfield 45104), (23, 0, .aload 0), (24, 0, .iconst (-1)), (25, 1367, .putfield 45108), (28, 0, .iconst 0), (29, 0, .istore 1), (30, 0, .nop), (30, 0, .iload 1), (31, 0, .iconst 106), (33, 0, .if_icmp .ge 29), (36, 0, .aload 0), (37, 1368, .getfield 45114), (40, 0, .iload 1), (41, 0, .iconst 0), (42, 0, .iastore), (43, 0, .iinc 1 1), (46, 0, .goto 18), (49, 0, .aload 0), (50, 1501, .invokevirtual 710340), (53, 0, .nop), (53, 0, .aload 0), (54, 1515, .invokevirtual 710405), (57, 0, .ifCond .eq 41), (60, 0, .aload 0), (61, 1364, .getfield 45096), (64, 0, .ifCond .eq 41), (67, 0, .aload 0), (68, 1519, .invokevirtual 711172), (71, 0, .goto 31), (74, 0, .aload 0), (75, 1515, .invokevirtual 710405), (78, 0, .ifCond .ne 46), (81, 0, .iconst (-4)), (83, 0, .ireturn), (84, 0, .iconst 0), (85, 0, .istore 1), (86, 0, .nop), (86, 0, .iload 1), (87, 0, .iconst 106), (89, 0, .if_icmp .ge 62), (92, 0, .aload 0), (93, 1355, .getfield 45062), (96, 0, .iload 1), (97, 0, .aload 0), (98, 1368, .getfield 45114), (101, 0, .iload 1), (102, 0, .iaload), (103, 0, .iastore), (104, 0, .iinc 1 1), (107, 0, .goto 48), (110, 0, .aload 0), (111, 1355, .getfield 45062), (114, 0, .iconst 9), (116, 0, .iaload), (117, 0, .ireturn)]
abbrev k_Model_speedOf : Nat := 114
def cd_Model_speedOf : List (Nat × Nat × Instr) := [(0, 0, .iconst 0), (1, 0, .aload 0), (2, 0, .iload 1), (3, 1635, .invokevirtual 709833), (6, 0, .aload 0), (7, 0, .iload 2), (8, 1635, .invokevirtual 709833), (11, 0, .iadd), (12, 0, .aload 0), (13, 1355, .getfield 45062), (16, 0, .iconst 0), (17, 0, .iaload), (18, 0, .isub), (19, 1639, .invokedynamic 1), (22, 0, .ireturn)]
abbrev k_Model_forceOf : Nat := 115
def cd_Model_forceOf : List (Nat × Nat × Instr) := [(0, 0, .aload 0), (1, 0, .iload 1), (2, 0, .iconst 5), (3, 1595, .invokevirtual 709709), (6, 0, .ifCond .ne 7), (9, 0, .iconst 4), (10, 0, .goto 16), (13, 0, .aload 0), (14, 0, .iload 1), (15, 0, .iconst 5), (16, 1595, .invokevirtual 709709), (19, 0, .iconst 1), (20, 0, .if_icmp .ne 15), (23, 0, .iconst 2), (24, 0, .goto 16), (27, 0, .iconst 0), (28, 0, .istore 4), (30, 0, .iconst 0), (31, 0, .aload 0), (32, 0, .iload 1), (33, 0, .iconst 2), (34, 1595, .invokevirtual 709709), (37, 0, .iload 2), (38, 0, .iadd), (39, 0, .aload 0), (40, 0, .iload 1), (41, 0, .iconst 4), (42, 1595, .invokevirtual 709709), (45, 0, .iadd), (46, 0, .iload 4), (48, 0, .iadd), (49, 0, .aload 0), (50, 0, .iload 1), (51, 0, .iconst 3), (52, 1595, .invokevirtual 709709), (55, 0, .iload 3), (56, 0, .imul), (57, 0, .isub), (58, 1639, .invokedynamic 1), (61, 0, .ireturn)]
abbrev k_Model_standsOf : Nat := 116
def cd_Model_standsOf : List (Nat × Nat × Instr) := [(0, 0, .aload 0), (1, 0, .iload 1), (2, 0, .iconst 1), (3, 1595, .invokevirtual 709709), (6, 0, .aload 0), (7, 0, .iload 1), (8, 0, .iconst 0), (9, 1595, .invokevirtual 709709), (12, 0, .iconst 10), (14, 0, .idiv), (15, 0, .iadd), (16, 0, .iload 3), (17, 0, .iconst 2), (18, 0, .idiv), (19, 0, .isub), (20, 0, .aload 0), (21, 0, .iload 1), (22, 0, .iconst 3), (23, 1595, .invokevirtual 709709), (26, 0, .iload 4), (28, 0, .imul), (29, 0, .iconst 2), (30, 0, .idiv), (31, 0, .isub), (32, 0, .iconst 2), (33, 0, .aload 0), (34, 0, .iload 1), (35, 0, .iconst 4), (36, 1595, .invokevirtual 709709), (39, 0, .iconst 2), (40, 0, .isub), (41, 1666, .invokedynamic 2), (44, 0, .imul), (45, 0, .isub), (46, 0, .istore 5), (48, 0, .iconst 0), (49, 0, .iload 5), (51, 0, .aload 0), (52, 0, .iload 2), (53, 0, .iconst 5), (54, 1595, .invokevirtual 709709), (57, 0, .iconst 1), (58, 0, .if_icmp .ne 45), (61, 0, .iconst 3), (62, 0, .goto 46), (65, 0, .iconst 0), (66, 0, .isub), (67, 1639, .invokedynamic 1), (70, 0, .ireturn)]
abbrev k_Model_isThrustOff : Nat := 117
def cd_Model_isThrustOff : List (Nat × Nat × Instr) := [(0, 0, .aload 0), (1, 0, .iload 2), (2, 0, .iconst 5), (3, 1595, .invokevirtual 709709), (6, 0, .iconst 2), (7, 0, .if_icmp .eq 20), (10, 0, .aload 0), (11, 0, .iload 2), (12, 0, .iload 3), (13, 0, .iload 5), (15, 1650, .invokevirtual 711377), (18, 0, .aload 0), (19, 0, .iload 1), (20, 0, .iload 2), (21, 0, .iload 3), (22, 0, .iload 4), (24, 1662, .invokevirtual 711445), (27, 0, .if_icmp .le 20), (30, 0, .iconst 1), (31, 0, .goto 21), (34, 0, .iconst 0), (35, 0, .areturn)]
abbrev k_Model_whyOf : Nat := 118
def cd_Model_whyOf : List (Nat × Nat × Instr) := [(0, 0, .iload 6), (2, 0, .aload 0), (3, 1355, .getfield 45062), (6, 0, .iconst 3), (7, 0, .iaload), (8, 0, .if_icmp .ge 8), (11, 0, .iconst 0), (12, 0, .ireturn), (13, 0, .iload 6), (15, 0, .aload 0), (16, 1355, .getfield 45062), (19, 0, .iconst 4), (20, 0, .iaload), (21, 0, .if_icmp .le 24), (24, 0, .aload 0), (25, 0, .iload 1), (26, 0, .iconst 4), (27, 1595, .invokevirtual 709709), (30, 0, .iconst 4), (31, 0, .if_icmp .ne 22), (34, 0, .iconst 1), (35, 0, .goto 23), (38, 0, .iconst 0), (39, 0, .ireturn), (40, 0, .aload 0), (41, 0, .iload 1), (42, 0, .iconst 5), (43, 1595, .invokevirtual 709709), (46, 0, .iconst 2), (47, 0, .if_icmp .ne 32), (50, 0, .iconst 2), (51, 0, .ireturn), (52, 0, .aload 0), (53, 0, .iload 1), (54, 0, .iload 2), (55, 0, .iload 3), (56, 0, .iload 4), (58, 0, .iload 5), (60, 1680, .invokevirtual 711513), (63, 0, .ifCond .eq 42), (66, 0, .iconst 3), (67, 0, .goto 43), (70, 0, .iconst 0), (71, 0, .ireturn)]
abbrev k_Model_resultOf : Nat := 119
def cd_Model_resultOf : List (Nat × Nat × Instr) := [(0, 0, .aload 0), (1, 0, .iload 1), (2, 0, .iload 2), (3, 0, .iload 3), (4, 0, .iload 4), (6, 0, .iload 5), (8, 0, .iload 6), (10, 1676, .invokevirtual 711581), (13, 0, .ifCond .ne 11), (16, 0, .iconst 0), (17, 0, .goto 12), (20, 0, .iconst 1), (21, 0, .aload 0), (22, 0, .iload 2), (23, 0, .iload 1), (24, 0, .iload 3), (25, 0, .iload 5), (27, 0, .iload 4), (29, 0, .iload 6), (31, 1676, .invokevirtual 711581), (34, 0, .ifCond .ne 23), (37, 0, .iconst 0), (38, 0, .goto 24), (41, 0, .iconst 2), (42, 0, .iadd), (43, 0, .ireturn)]
abbrev k_Model_man : Nat := 120
def cd_Model_man : List (Nat × Nat × Instr) := [(0, 0, .aload 0), (1, 0, .iload 1), (2, 0, .i2l), (3, 1590, .invokevirtual 709577), (6, 0, .ifCond .eq 16), (9, 0, .iload 2), (10, 0, .i2l), (11, 0, .ldc2_w 0), (12, 1594, .ldc2_w 10), (15, 1478, .invokestatic 5261), (18, 0, .ifCond .eq 16), (21, 0, .aload 0), (22, 0, .iload 1), (23, 0, .iload 2), (24, 1595, .invokevirtual 709709), (27, 0, .goto 17), (30, 0, .iconst (-2)), (32, 0, .ireturn)]
abbrev k_Model_boat : Nat := 121
def cd_Model_boat : List (Nat × Nat × Instr) := [(0, 0, .aload 0), (1, 0, .iload 1), (2, 1603, .invokevirtual 709513), (5, 0, .ifCond .eq 21), (8, 0, .iload 2), (9, 0, .i2l), (10, 0, .ldc2_w 0), (11, 0, .ldc2_w 1), (12, 1478, .invokestatic 5261), (15, 0, .ifCond .eq 21), (18, 0, .aload 0), (19, 1355, .getfield 45062), (22, 0, .iconst 10), (24, 0, .iconst 2), (25, 0, .iload 1), (26, 0, .imul), (27, 0, .iadd), (28, 0, .iload 2), (29, 0, .iadd), (30, 0, .iaload), (31, 0, .goto 22), (34, 0, .iconst (-2)), (36, 0, .ireturn)]
abbrev k_Model_team : Nat := 122
def cd_Model_team : List (Nat × Nat × Instr) := [(0, 0, .aload 0), (1, 0, .iload 1), (2, 1611, .invokevirtual 709641), (5, 0, .ifCond .ne 6), (8, 0, .iconst (-2)), (10, 0, .ireturn), (11, 0, .iload 2), (12, 0, .iconst (-1)), (13, 0, .if_icmp .ne 13), (16, 0, .aload 0), (17, 0, .iload 1), (18, 1615, .invokevirtual 709961), (21, 0, .goto 37), (24, 0, .iload 2), (25, 0, .iconst (-2)), (27, 0, .if_icmp .ne 20), (30, 0, .aload 0), (31, 0, .iload 1), (32, 1619, .invokevirtual 710025), (35, 0, .goto 37), (38, 0, .iload 2), (39, 0, .i2l), (40, 0, .ldc2_w 0), (41, 0, .aload 0), (42, 0, .iload 1), (43, 1619, .invokevirtual 710025), (46, 0, .iconst 1), (47, 0, .isub), (48, 0, .i2l), (49, 1478, .invokestatic 5261), (52, 0, .ifCond .eq 36), (55, 0, .aload 0), (56, 0, .iload 1), (57, 0, .iload 2), (58, 1623, .invokevirtual 710093), (61, 0, .goto 37), (64, 0, .iconst (-1)), (65, 0, .ireturn)]
abbrev k_Model_speed : Nat := 123
def cd_Model_speed : List (Nat × Nat × Instr) := [(0, 0, .aload 0), (1, 0, .iload 1), (2, 1603, .invokevirtual 709513), (5, 0, .ifCond .eq 13), (8, 0, .aload 0), (9, 0, .iload 2), (10, 1603, .invokevirtual 709513), (13, 0, .ifCond .eq 13), (16, 0, .aload 0), (17, 0, .iload 1), (18, 0, .iload 2), (19, 1631, .invokevirtual 711309), (22, 0, .goto 14), (25, 0, .iconst (-2)), (27, 0, .ireturn)]
abbrev k_Model_arePasses : Nat := 124
def cd_Model_arePasses : List (Nat × Nat × Instr) := [(0, 0, .iload 0), (1, 0, .i2l), (2, 0, .ldc2_w 0), (3, 1649, .ldc2_w 11), (6, 1478, .invokestatic 5261), (9, 0, .areturn)]
abbrev k_Model_force : Nat := 125
def cd_Model_force : List (Nat × Nat × Instr) := [(0, 0, .aload 0), (1, 0, .iload 1), (2, 0, .i2l), (3, 1590, .invokevirtual 709577), (6, 0, .ifCond .eq 25), (9, 0, .aload 0), (10, 0, .iload 2), (11, 1603, .invokevirtual 709513), (14, 0, .ifCond .eq 25), (17, 0, .aload 0), (18, 0, .iload 3), (19, 1603, .invokevirtual 709513), (22, 0, .ifCond .eq 25), (25, 0, .iload 4), (27, 1646, .invokestatic 7941), (30, 0, .ifCond .eq 25), (33, 0, .aload 0), (34, 0, .iload 1), (35, 0, .aload 0), (36, 0, .iload 2), (37, 0, .iload 3), (38, 1631, .invokevirtual 711309), (41, 0, .iload 4), (43, 1650, .invokevirtual 711377), (46, 0, .goto 26), (49, 0, .iconst (-2)), (51, 0, .ireturn)]
abbrev k_Model_areSo : Nat := 126
def cd_Model_areSo : List (Nat × Nat × Instr) := [(0, 0, .aload 0), (1, 0, .iload 1), (2, 0, .i2l), (3, 1590, .invokevirtual 709577), (6, 0, .ifCond .eq 23), (9, 0, .aload 0), (10, 0, .iload 2), (11, 0, .i2l), (12, 1590, .invokevirtual 709577), (15, 0, .ifCond .eq 23), (18, 0, .iload 1), (19, 0, .iload 2), (20, 0, .if_icmp .eq 23), (23, 0, .aload 0), (24, 0, .iload 3), (25, 1603, .invokevirtual 709513), (28, 0, .ifCond .eq 23), (31, 0, .aload 0), (32, 0, .iload 4), (34, 1603, .invokevirtual 709513), (37, 0, .ifCond .eq 23), (40, 0, .iconst 1), (41, 0, .goto 24), (44, 0, .iconst 0), (45, 0, .areturn)]
abbrev k_Model_stands : Nat := 127
def cd_Model_stands : List (Nat × Nat × Instr) := [(0, 0, .aload 0), (1, 0, .iload 1), (2, 0, .iload 2), (3, 0, .iload 3), (4, 0, .iload 4), (6, 1658, .invokevirtual 712085), (9, 0, .ifCond .eq 20), (12, 0, .iload 5), (14, 1646, .invokestatic 7941), (17, 0, .ifCond .eq 20), (20, 0, .aload 0), (21, 0, .iload 1), (22, 0, .iload 2), (23, 0, .aload 0), (24, 0, .iload 3), (25, 0, .iload 4), (27, 1631, .invokevirtual 711309), (30, 0, .iload 5), (32, 1662, .invokevirtual 711445), (35, 0, .goto 21), (38, 0, .iconst (-2)), (40, 0, .ireturn)]
abbrev k_Model_pass : Nat := 128
def cd_Model_pass : List (Nat × Nat × Instr) := [(0, 0, .aload 0), (1, 0, .iload 1), (2, 0, .iload 2), (3, 0, .iload 3), (4, 0, .iload 4), (6, 1658, .invokevirtual 712085), (9, 0, .ifCond .eq 28), (12, 0, .iload 5), (14, 1646, .invokestatic 7941), (17, 0, .ifCond .eq 28), (20, 0, .iload 6), (22, 0, .i2l), (23, 0, .ldc2_w 0), (24, 1671, .ldc2_w 12), (27, 1478, .invokestatic 5261), (30, 0, .ifCond .eq 28), (33, 0, .aload 0), (34, 0, .iload 1), (35, 0, .iload 2), (36, 0, .aload 0), (37, 0, .iload 3), (38, 0, .iload 4), (40, 1631, .invokevirtual 711309), (43, 0, .iload 5), (45, 0, .iload 5), (47, 0, .iload 6), (49, 1672, .invokevirtual 711645), (52, 0, .goto 29), (55, 0, .iconst (-2)), (57, 0, .ireturn)]
abbrev k_Model_why : Nat := 129
def cd_Model_why : List (Nat × Nat × Instr) := [(0, 0, .aload 0), (1, 0, .iload 1), (2, 0, .iload 2), (3, 0, .iload 3), (4, 0, .iload 4), (6, 1658, .invokevirtual 712085), (9, 0, .ifCond .eq 28), (12, 0, .iload 5), (14, 1646, .invokestatic 7941), (17, 0, .ifCond .eq 28), (20, 0, .iload 6), (22, 0, .i2l), (23, 0, .ldc2_w 0), (24, 1671, .ldc2_w 12), (27, 1478, .invokestatic 5261), (30, 0, .ifCond .eq 28), (33, 0, .aload 0), (34, 0, .iload 1), (35, 0, .iload 2), (36, 0, .aload 0), (37, 0, .iload 3), (38, 0, .iload 4), (40, 1631, .invokevirtual 711309), (43, 0, .iload 5), (45, 0, .iload 5), (47, 0, .iload 6), (49, 1676, .invokevirtual 711581), (52, 0, .goto 29), (55, 0, .iconst (-2)), (57, 0, .ireturn)]
abbrev k_Model_draw : Nat := 130
def cd_Model_draw : List (Nat × Nat × Instr) := [(0, 0, .aload 0), (1, 1708, .ldc2_w 13), (4, 0, .aload 0), (5, 1372, .getfield 45129), (8, 0, .lmul), (9, 1709, .ldc2_w 14), (12, 0, .ladd), (13, 1710, .ldc2_w 15), (16, 0, .lrem), (17, 1372, .putfield 45129), (20, 0, .aload 0), (21, 1372, .getfield 45129), (24, 1711, .ldc2_w 16), (27, 0, .ldiv), (28, 0, .iload 1), (29, 0, .i2l), (30, 0, .lrem), (31, 0, .l2i), (32, 0, .ireturn)]
abbrev k_Model_slipDrawn : Nat := 131
def cd_Model_slipDrawn : List (Nat × Nat × Instr) := [(0, 0, .aload 0), (1, 0, .iconst 2), (2, 0, .aload 0), (3, 0, .iload 1), (4, 1700, .invokevirtual 709897), (7, 0, .imul), (8, 0, .iconst 1), (9, 0, .iadd), (10, 1704, .invokevirtual 712329), (13, 0, .aload 0), (14, 0, .iload 1), (15, 1700, .invokevirtual 709897), (18, 0, .isub), (19, 0, .ireturn)]
abbrev k_Model_goes : Nat := 132
def cd_Model_goes : List (Nat × Nat × Instr) := [(0, 0, .aload 0), (1, 0, .iconst 0), (2, 1369, .putfield 45116), (5, 0, .aload 0), (6, 0, .iconst 0), (7, 1370, .putfield 45120), (10, 0, .nop), (10, 0, .aload 0), (11, 1369, .getfield 45116), (14, 0, .ifCond .ne 76), (17, 0, .aload 0), (18, 1370, .getfield 45120), (21, 0, .aload 0), (22, 1355, .getfield 45062), (25, 0, .iconst 2), (26, 0, .iaload), (27, 0, .if_icmp .ge 76), (30, 0, .aload 0), (31, 1355, .getfield 45062), (34, 0, .iconst 1), (35, 0, .iaload), (36, 0, .istore 8), (38, 0, .iload 7), (40, 0, .ifCond .eq 36), (43, 0, .iload 8), (45, 0, .aload 0), (46, 0, .iload 3), (47, 1696, .invokevirtual 712393), (50, 0, .iadd), (51, 0, .istore 8), (53, 0, .iload 8), (55, 0, .aload 0), (56, 0, .iload 4), (58, 1696, .invokevirtual 712393), (61, 0, .isub), (62, 0, .istore 8), (64, 0, .aload 0), (65, 0, .dup), (66, 1371, .getfield 45124), (69, 0, .iload 8), (71, 0, .aload 0), (72, 1355, .getfield 45062), (75, 0, .iconst 3), (76, 0, .iaload), (77, 0, .if_icmp .ge 47), (80, 0, .iconst 1), (81, 0, .goto 48), (84, 0, .iconst 0), (85, 0, .iadd), (86, 1371, .putfield 45124), (89, 0, .aload 0), (90, 0, .aload 0), (91, 0, .iload 1), (92, 0, .iload 2), (93, 0, .aload 0), (94, 0, .iload 3), (95, 0, .iload 4), (97, 1631, .invokevirtual 711309), (100, 0, .iload 5), (102, 0, .aload 0), (103, 1370, .getfield 45120), (106, 0, .iadd), (107, 0, .iload 6), (109, 0, .aload 0), (110, 1370, .getfield 45120), (113, 0, .iadd), (114, 0, .iload 8), (116, 1672, .invokevirtual 711645), (119, 1369, .putfield 45116), (122, 0, .aload 0), (123, 0, .dup), (124, 1370, .getfield 45120), (127, 0, .iconst 1), (128, 0, .iadd), (129, 1370, .putfield 45120), (132, 0, .goto 6), (135, 0, .return_)]
abbrev k_Model_bout : Nat := 133
def cd_Model_bout : List (Nat × Nat × Instr) := [(0, 0, .aload 0), (1, 0, .iload 1), (2, 0, .iload 2), (3, 0, .iload 3), (4, 0, .iload 4), (6, 1658, .invokevirtual 712085), (9, 0, .ifCond .eq 13), (12, 0, .iload 5), (14, 0, .i2l), (15, 0, .ldc2_w 0), (16, 0, .ldc2_w 1), (17, 1478, .invokestatic 5261), (20, 0, .ifCond .ne 15), (23, 0, .iconst (-2)), (25, 0, .ireturn), (26, 0, .aload 0), (27, 0, .iload 1), (28, 0, .iload 2), (29, 0, .iload 3), (30, 0, .iload 4), (32, 0, .iconst 0), (33, 0, .iconst 0), (34, 0, .iconst 0), (35, 1692, .invokevirtual 712480), (38, 0, .iload 5), (40, 0, .ifCond .ne 29), (43, 0, .aload 0), (44, 1369, .getfield 45116), (47, 0, .goto 38), (50, 0, .aload 0), (51, 1369, .getfield 45116), (54, 0, .ifCond .ne 34), (57, 0, .iconst (-1)), (58, 0, .goto 38), (61, 0, .aload 0), (62, 1370, .getfield 45120), (65, 0, .iconst 1), (66, 0, .isub), (67, 0, .ireturn)]
abbrev k_Model_pairsOf : Nat := 134
def cd_Model_pairsOf : List (Nat × Nat × Instr) := [(0, 0, .iconst 2), (1, 0, .aload 0), (2, 0, .iload 1), (3, 1700, .invokevirtual 709897), (6, 0, .imul), (7, 0, .iconst 1), (8, 0, .iadd), (9, 0, .iconst 2), (10, 0, .aload 0), (11, 0, .iload 2), (12, 1700, .invokevirtual 709897), (15, 0, .imul), (16, 0, .iconst 1), (17, 0, .iadd), (18, 0, .imul), (19, 0, .ireturn)]
abbrev k_Model_kindOf : Nat := 135
def cd_Model_kindOf : List (Nat × Nat × Instr) := [(0, 0, .iload 1), (1, 0, .aload 0), (2, 1355, .getfield 45062), (5, 0, .iconst 3), (6, 0, .iaload), (7, 0, .if_icmp .ge 8), (10, 0, .iconst 0), (11, 0, .goto 17), (14, 0, .iload 1), (15, 0, .aload 0), (16, 1355, .getfield 45062), (19, 0, .iconst 4), (20, 0, .iaload), (21, 0, .if_icmp .le 16), (24, 0, .iconst 2), (25, 0, .goto 17), (28, 0, .iconst 1), (29, 0, .ireturn)]
abbrev k_Model_comingOf : Nat := 136
def cd_Model_comingOf : List (Nat × Nat × Instr) := [(0, 0, .iconst 0), (1, 0, .istore 5), (3, 0, .aload 0), (4, 0, .iload 1), (5, 1700, .invokevirtual 709897), (8, 0, .ineg), (9, 0, .istore 6), (11, 0, .nop), (11, 0, .iload 6), (13, 0, .aload 0), (14, 0, .iload 1), (15, 1700, .invokevirtual 709897), (18, 0, .if_icmp .gt 43), (21, 0, .aload 0), (22, 0, .iload 2), (23, 1700, .invokevirtual 709897), (26, 0, .ineg), (27, 0, .istore 7), (29, 0, .nop), (29, 0, .iload 7), (31, 0, .aload 0), (32, 0, .iload 2), (33, 1700, .invokevirtual 709897), (36, 0, .if_icmp .gt 41), (39, 0, .iload 5), (41, 0, .aload 0), (42, 0, .iload 3), (43, 0, .iload 6), (45, 0, .iadd), (46, 0, .iload 7), (48, 0, .isub), (49, 1721, .invokevirtual 712649), (52, 0, .iload 4), (54, 0, .if_icmp .ne 36), (57, 0, .iconst 1), (58, 0, .goto 37), (61, 0, .iconst 0), (62, 0, .iadd), (63, 0, .istore 5), (65, 0, .iinc 7 1), (68, 0, .goto 18), (71, 0, .iinc 6 1), (74, 0, .goto 7), (77, 0, .iload 5), (79, 0, .ireturn)]
abbrev k_Model_divisor : Nat := 137
def cd_Model_divisor : List (Nat × Nat × Instr) := [(0, 0, .lload 0), (1, 0, .lstore 4), (3, 0, .lload 2), (4, 0, .lstore 6), (6, 0, .nop), (6, 0, .lload 6), (8, 0, .ldc2_w 0), (9, 0, .lcmp), (10, 0, .ifCond .eq 18), (13, 0, .lload 4), (15, 0, .lload 6), (17, 0, .lrem), (18, 0, .lstore 8), (20, 0, .lload 6), (22, 0, .lstore 4), (24, 0, .lload 8), (26, 0, .lstore 6), (28, 0, .goto 4), (31, 0, .lload 4), (33, 0, .lreturn)]
abbrev k_Model_part_0 : Nat := 138
def cd_Model_part_0 : List (Nat × Nat × Instr) := [(0, 0, .iload 4), (2, 0, .ifCond .ne 4), (5, 0, .lload 0), (6, 0, .goto 5), (9, 0, .lload 2), (10, 0, .lload 0), (11, 0, .lload 2), (12, 1732, .invokestatic 8778), (15, 0, .ldiv), (16, 0, .lreturn)]
abbrev k_Model_comes : Nat := 139
def cd_Model_comes : List (Nat × Nat × Instr) := [(0, 0, .aload 0), (1, 0, .iload 1), (2, 1603, .invokevirtual 709513), (5, 0, .ifCond .eq 26), (8, 0, .aload 0), (9, 0, .iload 2), (10, 1603, .invokevirtual 709513), (13, 0, .ifCond .eq 26), (16, 0, .iload 3), (17, 0, .i2l), (18, 0, .ldc2_w 0), (19, 1716, .ldc2_w 17), (22, 1478, .invokestatic 5261), (25, 0, .ifCond .eq 26), (28, 0, .iload 4), (30, 0, .i2l), (31, 0, .ldc2_w 0), (32, 1477, .ldc2_w 5), (35, 1478, .invokestatic 5261), (38, 0, .ifCond .eq 26), (41, 0, .iload 5), (43, 0, .i2l), (44, 0, .ldc2_w 0), (45, 0, .ldc2_w 1), (46, 1478, .invokestatic 5261), (49, 0, .ifCond .ne 28), (52, 0, .iconst (-2)), (54, 0, .ireturn), (55, 0, .aload 0), (56, 0, .iload 1), (57, 0, .iload 2), (58, 0, .iload 3), (59, 0, .iload 4), (61, 1717, .invokevirtual 712725), (64, 0, .i2l), (65, 0, .aload 0), (66, 0, .iload 1), (67, 0, .iload 2), (68, 1725, .invokevirtual 712589), (71, 0, .i2l), (72, 0, .iload 5), (74, 1729, .invokestatic 8846), (77, 0, .l2i), (78, 0, .ireturn)]
abbrev k_Model_steer : Nat := 140
def cd_Model_steer : List (Nat × Nat × Instr) := [(0, 0, .aload 0), (1, 0, .iload 1), (2, 1603, .invokevirtual 709513), (5, 0, .ifCond .eq 20), (8, 0, .aload 0), (9, 0, .iload 2), (10, 1603, .invokevirtual 709513), (13, 0, .ifCond .eq 20), (16, 0, .iload 3), (17, 0, .i2l), (18, 0, .ldc2_w 0), (19, 1739, .ldc2_w 18), (22, 1478, .invokestatic 5261), (25, 0, .ifCond .eq 20), (28, 0, .iload 4), (30, 0, .i2l), (31, 0, .ldc2_w 1), (32, 1739, .ldc2_w 18), (35, 1478, .invokestatic 5261), (38, 0, .ifCond .ne 22), (41, 0, .iconst (-2)), (43, 0, .ireturn), (44, 0, .iconst (-1)), (45, 0, .istore 5), (47, 0, .iconst (-1)), (48, 0, .istore 6), (50, 0, .iconst 0), (51, 0, .istore 7), (53, 0, .nop), (53, 0, .iload 7), (55, 0, .iconst 12), (57, 0, .if_icmp .gt 67), (60, 0, .aload 0), (61, 0, .iload 1), (62, 0, .iload 2), (63, 0, .iload 7), (65, 0, .iconst 0), (66, 1717, .invokevirtual 712725), (69, 0, .iload 4), (71, 0, .imul), (72, 0, .iload 3), (73, 0, .aload 0), (74, 0, .iload 1), (75, 0, .iload 2), (76, 1725, .invokevirtual 712589), (79, 0, .imul), (80, 0, .if_icmp .gt 65), (83, 0, .aload 0), (84, 0, .iload 1), (85, 0, .iload 2), (86, 0, .iload 7), (88, 0, .iconst 1), (89, 1717, .invokevirtual 712725), (92, 0, .iload 6), (94, 0, .if_icmp .gt 56), (97, 0, .goto 65), (100, 0, .iload 7), (102, 0, .istore 5), (104, 0, .aload 0), (105, 0, .iload 1), (106, 0, .iload 2), (107, 0, .iload 7), (109, 0, .iconst 1), (110, 1717, .invokevirtual 712725), (113, 0, .istore 6), (115, 0, .iinc 7 1), (118, 0, .goto 28), (121, 0, .iload 5), (123, 0, .ireturn)]
abbrev k_Model_resultsOf : Nat := 141
def cd_Model_resultsOf : List (Nat × Nat × Instr) := [(0, 0, .iconst 0), (1, 0, .istore 7), (3, 0, .aload 0), (4, 0, .iload 3), (5, 0, .iload 4), (7, 1631, .invokevirtual 711309), (10, 0, .istore 8), (12, 0, .aload 0), (13, 0, .iload 3), (14, 1700, .invokevirtual 709897), (17, 0, .ineg), (18, 0, .istore 9), (20, 0, .nop), (20, 0, .iload 9), (22, 0, .aload 0), (23, 0, .iload 3), (24, 1700, .invokevirtual 709897), (27, 0, .if_icmp .gt 56), (30, 0, .aload 0), (31, 0, .iload 4), (33, 1700, .invokevirtual 709897), (36, 0, .ineg), (37, 0, .istore 10), (39, 0, .nop), (39, 0, .iload 10), (41, 0, .aload 0), (42, 0, .iload 4), (44, 1700, .invokevirtual 709897), (47, 0, .if_icmp .gt 54), (50, 0, .iload 7), (52, 0, .aload 0), (53, 0, .iload 1), (54, 0, .iload 2), (55, 0, .iload 8), (57, 0, .iload 5), (59, 0, .iload 5), (61, 0, .aload 0), (62, 1355, .getfield 45062), (65, 0, .iconst 1), (66, 0, .iaload), (67, 0, .iload 9), (69, 0, .iadd), (70, 0, .iload 10), (72, 0, .isub), (73, 1672, .invokevirtual 711645), (76, 0, .iload 6), (78, 0, .if_icmp .ne 49), (81, 0, .iconst 1), (82, 0, .goto 50), (85, 0, .iconst 0), (86, 0, .iadd), (87, 0, .istore 7), (89, 0, .iinc 10 1), (92, 0, .goto 23), (95, 0, .iinc 9 1), (98, 0, .goto 12), (101, 0, .iload 7), (103, 0, .ireturn)]
abbrev k_Model_gainOf : Nat := 142
def cd_Model_gainOf : List (Nat × Nat × Instr) := [(0, 0, .aload 0), (1, 0, .iload 1), (2, 0, .iload 2), (3, 0, .iload 3), (4, 0, .iload 4), (6, 0, .iconst 0), (7, 0, .iconst 2), (8, 1745, .invokevirtual 713053), (11, 0, .aload 0), (12, 0, .iload 1), (13, 0, .iload 2), (14, 0, .iload 3), (15, 0, .iload 4), (17, 0, .iconst 0), (18, 0, .iconst 1), (19, 1745, .invokevirtual 713053), (22, 0, .isub), (23, 0, .ireturn)]
abbrev k_Model_odds : Nat := 143
def cd_Model_odds : List (Nat × Nat × Instr) := [(0, 0, .aload 0), (1, 0, .iload 1), (2, 0, .iload 2), (3, 0, .iload 3), (4, 0, .iload 4), (6, 1658, .invokevirtual 712085), (9, 0, .ifCond .eq 19), (12, 0, .iload 5), (14, 0, .i2l), (15, 0, .ldc2_w 0), (16, 1744, .ldc2_w 4), (19, 1478, .invokestatic 5261), (22, 0, .ifCond .eq 19), (25, 0, .iload 6), (27, 0, .i2l), (28, 0, .ldc2_w 0), (29, 0, .ldc2_w 1), (30, 1478, .invokestatic 5261), (33, 0, .ifCond .ne 21), (36, 0, .iconst (-2)), (38, 0, .ireturn), (39, 0, .aload 0), (40, 0, .iload 1), (41, 0, .iload 2), (42, 0, .iload 3), (43, 0, .iload 4), (45, 0, .iconst 0), (46, 0, .iload 5), (48, 1745, .invokevirtual 713053), (51, 0, .i2l), (52, 0, .aload 0), (53, 0, .iload 3), (54, 0, .iload 4), (56, 1725, .invokevirtual 712589), (59, 0, .i2l), (60, 0, .iload 6), (62, 1729, .invokestatic 8846), (65, 0, .l2i), (66, 0, .ireturn)]
abbrev k_Model_power : Nat := 144
def cd_Model_power : List (Nat × Nat × Instr) := [(0, 0, .ldc2_w 1), (1, 0, .lstore 3), (2, 0, .iconst 0), (3, 0, .istore 5), (5, 0, .nop), (5, 0, .iload 5), (7, 0, .iload 2), (8, 0, .if_icmp .ge 14), (11, 0, .lload 3), (12, 0, .lload 0), (13, 0, .lmul), (14, 0, .lstore 3), (15, 0, .iinc 5 1), (18, 0, .goto 4), (21, 0, .lload 3), (22, 0, .lreturn)]
abbrev k_Model_ends : Nat := 145
def cd_Model_ends : List (Nat × Nat × Instr) := [(0, 0, .aload 0), (1, 0, .iload 1), (2, 0, .iload 2), (3, 0, .iload 3), (4, 0, .iload 4), (6, 1658, .invokevirtual 712085), (9, 0, .ifCond .eq 19), (12, 0, .iload 5), (14, 0, .i2l), (15, 0, .ldc2_w 0), (16, 1744, .ldc2_w 4), (19, 1478, .invokestatic 5261), (22, 0, .ifCond .eq 19), (25, 0, .iload 6), (27, 0, .i2l), (28, 0, .ldc2_w 0), (29, 0, .ldc2_w 1), (30, 1478, .invokestatic 5261), (33, 0, .ifCond .ne 21), (36, 1753, .ldc2_w 2), (39, 0, .lreturn), (40, 0, .aload 0), (41, 1355, .getfield 45062), (44, 0, .iconst 2), (45, 0, .iaload), (46, 0, .istore 7), (48, 0, .aload 0), (49, 0, .iload 3), (50, 0, .iload 4), (52, 1725, .invokevirtual 712589), (55, 0, .i2l), (56, 0, .lstore 8), (58, 0, .ldc2_w 1), (59, 0, .lstore 10), (61, 0, .ldc2_w 0), (62, 0, .lstore 12), (64, 0, .iconst 0), (65, 0, .istore 14), (67, 0, .nop), (67, 0, .iload 14), (69, 0, .iload 7), (71, 0, .if_icmp .ge 78), (74, 0, .lload 12), (76, 0, .lload 10), (78, 0, .aload 0), (79, 0, .iload 1), (80, 0, .iload 2), (81, 0, .iload 3), (82, 0, .iload 4), (84, 0, .iload 14), (86, 0, .iload 5), (88, 1745, .invokevirtual 713053), (91, 0, .i2l), (92, 0, .lmul), (93, 0, .lload 8), (95, 0, .iload 7), (97, 0, .iconst 1), (98, 0, .isub), (99, 0, .iload 14), (101, 0, .isub), (102, 1754, .invokestatic 9226), (105, 0, .lmul), (106, 0, .ladd), (107, 0, .lstore 12), (109, 0, .lload 10), (111, 0, .aload 0), (112, 0, .iload 1), (113, 0, .iload 2), (114, 0, .iload 3), (115, 0, .iload 4), (117, 0, .iload 14), (119, 0, .iconst 0), (120, 1745, .invokevirtual 713053), (123, 0, .i2l), (124, 0, .lmul), (125, 0, .lstore 10), (127, 0, .iinc 14 1), (130, 0, .goto 38), (133, 0, .iload 5), (135, 0, .ifCond .ne 82), (138, 0, .lload 10), (140, 0, .goto 83), (143, 0, .lload 12), (145, 0, .lload 8), (147, 0, .iload 7), (149, 1754, .invokestatic 9226), (152, 0, .iload 6), (154, 1729, .invokestatic 8846), (157, 0, .lreturn)]
abbrev k_Model_lasts : Nat := 146
def cd_Model_lasts : List (Nat × Nat × Instr) := [(0, 0, .aload 0), (1, 0, .iload 1), (2, 0, .iload 2), (3, 0, .iload 3), (4, 0, .iload 4), (6, 1658, .invokevirtual 712085), (9, 0, .ifCond .eq 13), (12, 0, .iload 5), (14, 0, .i2l), (15, 0, .ldc2_w 0), (16, 0, .ldc2_w 1), (17, 1478, .invokestatic 5261), (20, 0, .ifCond .ne 15), (23, 1753, .ldc2_w 2), (26, 0, .lreturn), (27, 0, .aload 0), (28, 1355, .getfield 45062), (31, 0, .iconst 2), (32, 0, .iaload), (33, 0, .istore 6), (35, 0, .aload 0), (36, 0, .iload 3), (37, 0, .iload 4), (39, 1725, .invokevirtual 712589), (42, 0, .i2l), (43, 0, .lstore 7), (45, 0, .ldc2_w 1), (46, 0, .lstore 9), (48, 0, .ldc2_w 0), (49, 0, .lstore 11), (51, 0, .iconst 0), (52, 0, .istore 13), (54, 0, .nop), (54, 0, .iload 13), (56, 0, .iload 6), (58, 0, .if_icmp .ge 62), (61, 0, .lload 11), (63, 0, .lload 9), (65, 0, .lload 7), (67, 0, .iload 6), (69, 0, .iconst 1), (70, 0, .isub), (71, 0, .iload 13), (73, 0, .isub), (74, 1754, .invokestatic 9226), (77, 0, .lmul), (78, 0, .ladd), (79, 0, .lstore 11), (81, 0, .lload 9), (83, 0, .aload 0), (84, 0, .iload 1), (85, 0, .iload 2), (86, 0, .iload 3), (87, 0, .iload 4), (89, 0, .iload 13), (91, 0, .iconst 0), (92, 1745, .invokevirtual 713053), (95, 0, .i2l), (96, 0, .lmul), (97, 0, .lstore 9), (99, 0, .iinc 13 1), (102, 0, .goto 32), (105, 0, .lload 11), (107, 0, .lload 7), (109, 0, .iload 6), (111, 0, .iconst 1), (112, 0, .isub), (113, 1754, .invokestatic 9226), (116, 0, .iload 5), (118, 1729, .invokestatic 8846), (121, 0, .lreturn)]
abbrev k_Model_choose : Nat := 147
def cd_Model_choose : List (Nat × Nat × Instr) := [(0, 0, .aload 0), (1, 0, .iload 1), (2, 0, .iconst 4), (3, 0, .iload 2), (4, 0, .iconst 2), (5, 0, .idiv), (6, 1770, .invokevirtual 709776), (9, 0, .aload 0), (10, 0, .iload 1), (11, 0, .iconst 5), (12, 0, .iload 2), (13, 0, .iconst 2), (14, 0, .irem), (15, 1770, .invokevirtual 709776), (18, 0, .return_)]
abbrev k_Model_lay : Nat := 148
def cd_Model_lay : List (Nat × Nat × Instr) := [(0, 0, .aload 0), (1, 0, .iload 1), (2, 0, .iconst 4), (3, 1595, .invokevirtual 709709), (6, 0, .istore 5), (8, 0, .aload 0), (9, 0, .iload 1), (10, 0, .iconst 5), (11, 1595, .invokevirtual 709709), (14, 0, .istore 6), (16, 0, .aload 0), (17, 0, .iload 2), (18, 0, .iconst 4), (19, 1595, .invokevirtual 709709), (22, 0, .istore 7), (24, 0, .aload 0), (25, 0, .iload 2), (26, 0, .iconst 5), (27, 1595, .invokevirtual 709709), (30, 0, .istore 8), (32, 0, .iconst 0), (33, 0, .istore 9), (35, 0, .nop), (35, 0, .iload 9), (37, 0, .iconst 10), (39, 0, .if_icmp .ge 58), (42, 0, .iconst 0), (43, 0, .istore 10), (45, 0, .nop), (45, 0, .iload 10), (47, 0, .iconst 10), (49, 0, .if_icmp .ge 56), (52, 0, .aload 0), (53, 0, .iload 1), (54, 0, .iload 9), (56, 1766, .invokevirtual 713420), (59, 0, .aload 0), (60, 0, .iload 2), (61, 0, .iload 10), (63, 1766, .invokevirtual 713420), (66, 0, .aload 0), (67, 1373, .getfield 45134), (70, 0, .iconst 10), (72, 0, .iload 9), (74, 0, .imul), (75, 0, .iload 10), (77, 0, .iadd), (78, 0, .aload 0), (79, 0, .iload 1), (80, 0, .iload 2), (81, 0, .iload 3), (82, 0, .iload 4), (84, 1774, .invokevirtual 713109), (87, 0, .iastore), (88, 0, .iinc 10 1), (91, 0, .goto 28), (94, 0, .iinc 9 1), (97, 0, .goto 22), (100, 0, .aload 0), (101, 0, .iload 1), (102, 0, .iconst 4), (103, 0, .iload 5), (105, 1770, .invokevirtual 709776), (108, 0, .aload 0), (109, 0, .iload 1), (110, 0, .iconst 5), (111, 0, .iload 6), (113, 1770, .invokevirtual 709776), (116, 0, .aload 0), (117, 0, .iload 2), (118, 0, .iconst 4), (119, 0, .iload 7), (121, 1770, .invokevirtual 709776), (124, 0, .aload 0), (125, 0, .iload 2), (126, 0, .iconst 5), (127, 0, .iload 8), (129, 1770, .invokevirtual 709776), (132, 0, .return_)]
abbrev k_Model_best : Nat := 149
def cd_Model_best : List (Nat × Nat × Instr) := [(0, 0, .aload 0), (1, 0, .iload 1), (2, 0, .iload 2), (3, 0, .iload 3), (4, 0, .iload 4), (6, 1658, .invokevirtual 712085), (9, 0, .ifCond .ne 9), (12, 0, .iconst (-2)), (14, 0, .ireturn), (15, 0, .aload 0), (16, 0, .iload 1), (17, 0, .iconst 4), (18, 1595, .invokevirtual 709709), (21, 0, .istore 5), (23, 0, .aload 0), (24, 0, .iload 1), (25, 0, .iconst 5), (26, 1595, .invokevirtual 709709), (29, 0, .istore 6), (31, 0, .iconst (-1)), (32, 0, .istore 7), (34, 1765, .iconst (-1000000)), (37, 0, .istore 8), (39, 0, .iconst 0), (40, 0, .istore 9), (42, 0, .nop), (42, 0, .iload 9), (44, 0, .iconst 10), (46, 0, .if_icmp .ge 50), (49, 0, .aload 0), (50, 0, .iload 1), (51, 0, .iload 9), (53, 1766, .invokevirtual 713420), (56, 0, .aload 0), (57, 0, .iload 1), (58, 0, .iload 2), (59, 0, .iload 3), (60, 0, .iload 4), (62, 1774, .invokevirtual 713109), (65, 0, .istore 10), (67, 0, .iload 10), (69, 0, .iload 8), (71, 0, .if_icmp .gt 44), (74, 0, .goto 48), (77, 0, .iload 9), (79, 0, .istore 7), (81, 0, .iload 10), (83, 0, .istore 8), (85, 0, .iinc 9 1), (88, 0, .goto 25), (91, 0, .aload 0), (92, 0, .iload 1), (93, 0, .iconst 4), (94, 0, .iload 5), (96, 1770, .invokevirtual 709776), (99, 0, .aload 0), (100, 0, .iload 1), (101, 0, .iconst 5), (102, 0, .iload 6), (104, 1770, .invokevirtual 709776), (107, 0, .iload 7), (109, 0, .ireturn)]
abbrev k_Model_oars : Nat := 150
def cd_Model_oars : List (Nat × Nat × Instr) := [(0, 0, .aload 0), (1, 0, .iload 1), (2, 0, .iload 2), (3, 0, .iload 3), (4, 0, .iload 4), (6, 1658, .invokevirtual 712085), (9, 0, .ifCond .ne 9), (12, 0, .iconst (-2)), (14, 0, .ireturn), (15, 0, .aload 0), (16, 0, .iload 3), (17, 1635, .invokevirtual 709833), (20, 0, .istore 5), (22, 0, .iconst (-1)), (23, 0, .istore 6), (25, 1765, .iconst (-1000000)), (28, 0, .istore 7), (30, 0, .iconst 2), (31, 0, .istore 8), (33, 0, .nop), (33, 0, .iload 8), (35, 0, .iconst 12), (37, 0, .if_icmp .gt 49), (40, 0, .aload 0), (41, 1355, .getfield 45062), (44, 0, .iconst 10), (46, 0, .iconst 2), (47, 0, .iload 3), (48, 0, .imul), (49, 0, .iadd), (50, 0, .iload 8), (52, 0, .iastore), (53, 0, .aload 0), (54, 0, .iload 1), (55, 0, .iload 2), (56, 0, .iload 3), (57, 0, .iload 4), (59, 1774, .invokevirtual 713109), (62, 0, .istore 9), (64, 0, .iload 9), (66, 0, .iload 7), (68, 0, .if_icmp .gt 43), (71, 0, .goto 47), (74, 0, .iload 8), (76, 0, .istore 6), (78, 0, .iload 9), (80, 0, .istore 7), (82, 0, .iinc 8 1), (85, 0, .goto 19), (88, 0, .aload 0), (89, 1355, .getfield 45062), (92, 0, .iconst 10), (94, 0, .iconst 2), (95, 0, .iload 3), (96, 0, .imul), (97, 0, .iadd), (98, 0, .iload 5), (100, 0, .iastore), (101, 0, .iload 6), (103, 0, .ireturn)]
abbrev k_Model_heavy : Nat := 151
def cd_Model_heavy : List (Nat × Nat × Instr) := [(0, 0, .aload 0), (1, 0, .iload 1), (2, 0, .iload 2), (3, 0, .iload 3), (4, 0, .iload 4), (6, 1658, .invokevirtual 712085), (9, 0, .ifCond .ne 9), (12, 0, .iconst (-2)), (14, 0, .ireturn), (15, 0, .aload 0), (16, 0, .iload 1), (17, 0, .iconst 0), (18, 1595, .invokevirtual 709709), (21, 0, .istore 5), (23, 0, .iconst (-1)), (24, 0, .istore 6), (26, 0, .iconst 40), (28, 0, .istore 7), (30, 0, .nop), (30, 0, .iload 7), (32, 0, .iconst 200), (35, 0, .if_icmp .gt 53), (38, 0, .iload 6), (40, 0, .iconst (-1)), (41, 0, .if_icmp .ne 53), (44, 0, .aload 0), (45, 0, .iload 1), (46, 0, .iconst 0), (47, 0, .iload 7), (49, 1770, .invokevirtual 709776), (52, 0, .aload 0), (53, 0, .iload 1), (54, 0, .iconst 5), (55, 1595, .invokevirtual 709709), (58, 0, .iconst 2), (59, 0, .if_icmp .eq 49), (62, 0, .aload 0), (63, 0, .iload 1), (64, 0, .iload 2), (65, 0, .aload 0), (66, 0, .iload 3), (67, 0, .iload 4), (69, 1631, .invokevirtual 711309), (72, 0, .iconst 0), (73, 0, .iconst 0), (74, 1680, .invokevirtual 711513), (77, 0, .ifCond .eq 49), (80, 0, .iconst (-1)), (81, 0, .goto 50), (84, 0, .iload 7), (86, 0, .istore 6), (88, 0, .iinc 7 1), (91, 0, .goto 18), (94, 0, .aload 0), (95, 0, .iload 1), (96, 0, .iconst 0), (97, 0, .iload 5), (99, 1770, .invokevirtual 709776), (102, 0, .iload 6), (104, 0, .ireturn)]
abbrev k_Model_even : Nat := 152
def cd_Model_even : List (Nat × Nat × Instr) := [(0, 0, .aload 0), (1, 0, .iload 1), (2, 0, .iload 2), (3, 0, .iload 3), (4, 0, .iload 4), (6, 1658, .invokevirtual 712085), (9, 0, .ifCond .eq 13), (12, 0, .iload 5), (14, 0, .i2l), (15, 0, .ldc2_w 0), (16, 0, .ldc2_w 1), (17, 1478, .invokestatic 5261), (20, 0, .ifCond .ne 15), (23, 0, .iconst (-2)), (25, 0, .ireturn), (26, 0, .aload 0), (27, 0, .iload 1), (28, 0, .iconst 0), (29, 1595, .invokevirtual 709709), (32, 0, .istore 6), (34, 0, .iconst 0), (35, 0, .istore 7), (37, 0, .iconst (-1)), (38, 0, .istore 8), (40, 0, .iconst 40), (42, 0, .istore 9), (44, 0, .nop), (44, 0, .iload 9), (46, 0, .iconst 200), (49, 0, .if_icmp .gt 53), (52, 0, .aload 0), (53, 0, .iload 1), (54, 0, .iconst 0), (55, 0, .iload 9), (57, 1770, .invokevirtual 709776), (60, 0, .aload 0), (61, 0, .iload 1), (62, 0, .iload 2), (63, 0, .iload 3), (64, 0, .iload 4), (66, 1774, .invokevirtual 713109), (69, 0, .ifCond .eq 43), (72, 0, .goto 51), (75, 0, .iinc 7 1), (78, 0, .iload 8), (80, 0, .iconst (-1)), (81, 0, .if_icmp .ne 49), (84, 0, .iload 9), (86, 0, .goto 50), (89, 0, .iload 8), (91, 0, .istore 8), (93, 0, .iinc 9 1), (96, 0, .goto 26), (99, 0, .aload 0), (100, 0, .iload 1), (101, 0, .iconst 0), (102, 0, .iload 6), (104, 1770, .invokevirtual 709776), (107, 0, .iload 5), (109, 0, .ifCond .ne 62), (112, 0, .iload 7), (114, 0, .goto 63), (117, 0, .iload 8), (119, 0, .ireturn)]
abbrev k_Model_isChoice : Nat := 153
def cd_Model_isChoice : List (Nat × Nat × Instr) := [(0, 0, .iload 0), (1, 0, .i2l), (2, 0, .ldc2_w 0), (3, 1797, .ldc2_w 19), (6, 1478, .invokestatic 5261), (9, 0, .areturn)]
abbrev k_Model_gameOf : Nat := 154
def cd_Model_gameOf : List (Nat × Nat × Instr) := [(0, 0, .aload 0), (1, 1373, .getfield 45134), (4, 0, .iconst 10), (6, 0, .iload 1), (7, 0, .imul), (8, 0, .iload 2), (9, 0, .iadd), (10, 0, .iaload), (11, 0, .ireturn)]
abbrev k_Model_game : Nat := 155
def cd_Model_game : List (Nat × Nat × Instr) := [(0, 0, .aload 0), (1, 0, .iload 1), (2, 0, .iload 2), (3, 0, .iload 3), (4, 0, .iload 4), (6, 1658, .invokevirtual 712085), (9, 0, .ifCond .eq 13), (12, 0, .iload 5), (14, 1794, .invokestatic 9797), (17, 0, .ifCond .eq 13), (20, 0, .iload 6), (22, 1794, .invokestatic 9797), (25, 0, .ifCond .ne 15), (28, 0, .iconst (-1000)), (31, 0, .ireturn), (32, 0, .aload 0), (33, 0, .iload 1), (34, 0, .iload 2), (35, 0, .iload 3), (36, 0, .iload 4), (38, 1798, .invokevirtual 713492), (41, 0, .aload 0), (42, 0, .iload 5), (44, 0, .iload 6), (46, 1802, .invokevirtual 713869), (49, 0, .ireturn)]
abbrev k_Model_replyTo : Nat := 156
def cd_Model_replyTo : List (Nat × Nat × Instr) := [(0, 0, .iconst 0), (1, 0, .istore 2), (2, 0, .iconst 1), (3, 0, .istore 3), (4, 0, .nop), (4, 0, .iload 3), (5, 0, .iconst 10), (7, 0, .if_icmp .ge 23), (10, 0, .aload 0), (11, 0, .iload 1), (12, 0, .iload 3), (13, 1802, .invokevirtual 713869), (16, 0, .aload 0), (17, 0, .iload 1), (18, 0, .iload 2), (19, 1802, .invokevirtual 713869), (22, 0, .if_icmp .ge 19), (25, 0, .iload 3), (26, 0, .goto 20), (29, 0, .iload 2), (30, 0, .istore 2), (31, 0, .iinc 3 1), (34, 0, .goto 4), (37, 0, .iload 2), (38, 0, .ireturn)]
abbrev k_Model_bestTo : Nat := 157
def cd_Model_bestTo : List (Nat × Nat × Instr) := [(0, 0, .iconst 0), (1, 0, .istore 2), (2, 0, .iconst 1), (3, 0, .istore 3), (4, 0, .nop), (4, 0, .iload 3), (5, 0, .iconst 10), (7, 0, .if_icmp .ge 23), (10, 0, .aload 0), (11, 0, .iload 3), (12, 0, .iload 1), (13, 1802, .invokevirtual 713869), (16, 0, .aload 0), (17, 0, .iload 2), (18, 0, .iload 1), (19, 1802, .invokevirtual 713869), (22, 0, .if_icmp .le 19), (25, 0, .iload 3), (26, 0, .goto 20), (29, 0, .iload 2), (30, 0, .istore 2), (31, 0, .iinc 3 1), (34, 0, .goto 4), (37, 0, .iload 2), (38, 0, .ireturn)]
abbrev k_Model_reply : Nat := 158
def cd_Model_reply : List (Nat × Nat × Instr) := [(0, 0, .aload 0), (1, 0, .iload 1), (2, 0, .iload 2), (3, 0, .iload 3), (4, 0, .iload 4), (6, 1658, .invokevirtual 712085), (9, 0, .ifCond .eq 10), (12, 0, .iload 5), (14, 1794, .invokestatic 9797), (17, 0, .ifCond .ne 12), (20, 0, .iconst (-2)), (22, 0, .ireturn), (23, 0, .aload 0), (24, 0, .iload 1), (25, 0, .iload 2), (26, 0, .iload 3), (27, 0, .iload 4), (29, 1798, .invokevirtual 713492), (32, 0, .aload 0), (33, 0, .iload 5), (35, 1810, .invokevirtual 713993), (38, 0, .ireturn)]
abbrev k_Model_safe : Nat := 159
def cd_Model_safe : List (Nat × Nat × Instr) := [(0, 0, .aload 0), (1, 0, .iload 1), (2, 0, .iload 2), (3, 0, .iload 3), (4, 0, .iload 4), (6, 1658, .invokevirtual 712085), (9, 0, .ifCond .eq 13), (12, 0, .iload 5), (14, 0, .i2l), (15, 0, .ldc2_w 0), (16, 1744, .ldc2_w 4), (19, 1478, .invokestatic 5261), (22, 0, .ifCond .ne 15), (25, 0, .iconst (-1000)), (28, 0, .ireturn), (29, 0, .aload 0), (30, 0, .iload 1), (31, 0, .iload 2), (32, 0, .iload 3), (33, 0, .iload 4), (35, 1798, .invokevirtual 713492), (38, 0, .iconst 0), (39, 0, .istore 6), (41, 0, .iconst 0), (42, 0, .istore 7), (44, 0, .iconst 1), (45, 0, .istore 8), (47, 0, .nop), (47, 0, .iload 8), (49, 0, .iconst 10), (51, 0, .if_icmp .ge 67), (54, 0, .aload 0), (55, 0, .iload 8), (57, 0, .aload 0), (58, 0, .iload 8), (60, 1810, .invokevirtual 713993), (63, 1802, .invokevirtual 713869), (66, 0, .aload 0), (67, 0, .iload 6), (69, 0, .aload 0), (70, 0, .iload 6), (72, 1810, .invokevirtual 713993), (75, 1802, .invokevirtual 713869), (78, 0, .if_icmp .le 46), (81, 0, .iload 8), (83, 0, .goto 47), (86, 0, .iload 6), (88, 0, .istore 6), (90, 0, .aload 0), (91, 0, .aload 0), (92, 0, .iload 8), (94, 1818, .invokevirtual 714057), (97, 0, .iload 8), (99, 1802, .invokevirtual 713869), (102, 0, .aload 0), (103, 0, .aload 0), (104, 0, .iload 7), (106, 1818, .invokevirtual 714057), (109, 0, .iload 7), (111, 1802, .invokevirtual 713869), (114, 0, .if_icmp .ge 63), (117, 0, .iload 8), (119, 0, .goto 64), (122, 0, .iload 7), (124, 0, .istore 7), (126, 0, .iinc 8 1), (129, 0, .goto 27), (132, 0, .iload 5), (134, 0, .ifCond .ne 71), (137, 0, .iload 6), (139, 0, .goto 92), (142, 0, .iload 5), (144, 0, .iconst 1), (145, 0, .if_icmp .ne 81), (148, 0, .aload 0), (149, 0, .iload 6), (151, 0, .aload 0), (152, 0, .iload 6), (154, 1810, .invokevirtual 713993), (157, 1802, .invokevirtual 713869), (160, 0, .goto 92), (163, 0, .iload 5), (165, 0, .iconst 2), (166, 0, .if_icmp .ne 86), (169, 0, .iload 7), (171, 0, .goto 92), (174, 0, .aload 0), (175, 0, .aload 0), (176, 0, .iload 7), (178, 1818, .invokevirtual 714057), (181, 0, .iload 7), (183, 1802, .invokevirtual 713869), (186, 0, .ireturn)]
abbrev k_Model_isRest : Nat := 160
def cd_Model_isRest : List (Nat × Nat × Instr) := [(0, 0, .aload 0), (1, 0, .iload 1), (2, 0, .iload 2), (3, 1802, .invokevirtual 713869), (6, 0, .aload 0), (7, 0, .iload 1), (8, 0, .aload 0), (9, 0, .iload 1), (10, 1810, .invokevirtual 713993), (13, 1802, .invokevirtual 713869), (16, 0, .if_icmp .ne 24), (19, 0, .aload 0), (20, 0, .iload 1), (21, 0, .iload 2), (22, 1802, .invokevirtual 713869), (25, 0, .aload 0), (26, 0, .aload 0), (27, 0, .iload 2), (28, 1818, .invokevirtual 714057), (31, 0, .iload 2), (32, 1802, .invokevirtual 713869), (35, 0, .if_icmp .ne 24), (38, 0, .iconst 1), (39, 0, .goto 25), (42, 0, .iconst 0), (43, 0, .areturn)]
abbrev k_Model_rests : Nat := 161
def cd_Model_rests : List (Nat × Nat × Instr) := [(0, 0, .aload 0), (1, 0, .iload 1), (2, 0, .iload 2), (3, 0, .iload 3), (4, 0, .iload 4), (6, 1658, .invokevirtual 712085), (9, 0, .ifCond .ne 9), (12, 0, .iconst (-2)), (14, 0, .ireturn), (15, 0, .aload 0), (16, 0, .iload 1), (17, 0, .iload 2), (18, 0, .iload 3), (19, 0, .iload 4), (21, 1798, .invokevirtual 713492), (24, 0, .iconst 0), (25, 0, .istore 5), (27, 0, .iconst 0), (28, 0, .istore 6), (30, 0, .nop), (30, 0, .iload 6), (32, 0, .iconst 10), (34, 0, .if_icmp .ge 44), (37, 0, .iconst 0), (38, 0, .istore 7), (40, 0, .nop), (40, 0, .iload 7), (42, 0, .iconst 10), (44, 0, .if_icmp .ge 42), (47, 0, .iload 5), (49, 0, .aload 0), (50, 0, .iload 6), (52, 0, .iload 7), (54, 1826, .invokevirtual 714253), (57, 0, .ifCond .eq 37), (60, 0, .iconst 1), (61, 0, .goto 38), (64, 0, .iconst 0), (65, 0, .iadd), (66, 0, .istore 5), (68, 0, .iinc 7 1), (71, 0, .goto 25), (74, 0, .iinc 6 1), (77, 0, .goto 19), (80, 0, .iload 5), (82, 0, .ireturn)]
abbrev k_Model_rest : Nat := 162
def cd_Model_rest : List (Nat × Nat × Instr) := [(0, 0, .aload 0), (1, 0, .iload 1), (2, 0, .iload 2), (3, 0, .iload 3), (4, 0, .iload 4), (6, 1658, .invokevirtual 712085), (9, 0, .ifCond .eq 13), (12, 0, .iload 5), (14, 0, .i2l), (15, 0, .ldc2_w 0), (16, 0, .ldc2_w 1), (17, 1478, .invokestatic 5261), (20, 0, .ifCond .ne 15), (23, 0, .iconst (-2)), (25, 0, .ireturn), (26, 0, .aload 0), (27, 0, .iload 1), (28, 0, .iload 2), (29, 0, .iload 3), (30, 0, .iload 4), (32, 1798, .invokevirtual 713492), (35, 0, .iconst 0), (36, 0, .istore 6), (38, 0, .nop), (38, 0, .iload 6), (40, 0, .iconst 10), (42, 0, .if_icmp .ge 48), (45, 0, .iconst 0), (46, 0, .istore 7), (48, 0, .nop), (48, 0, .iload 7), (50, 0, .iconst 10), (52, 0, .if_icmp .ge 46), (55, 0, .aload 0), (56, 0, .iload 6), (58, 0, .iload 7), (60, 1826, .invokevirtual 714253), (63, 0, .ifCond .eq 44), (66, 0, .iload 5), (68, 0, .ifCond .ne 42), (71, 0, .iload 6), (73, 0, .goto 43), (76, 0, .iload 7), (78, 0, .ireturn), (79, 0, .iinc 7 1), (82, 0, .goto 29), (85, 0, .iinc 6 1), (88, 0, .goto 23), (91, 0, .iconst (-1)), (92, 0, .ireturn)]
abbrev k_Model_isVain : Nat := 163
def cd_Model_isVain : List (Nat × Nat × Instr) := [(0, 0, .iconst 0), (1, 0, .istore 3), (2, 0, .iconst 0), (3, 0, .istore 4), (5, 0, .nop), (5, 0, .iload 4), (7, 0, .iconst 10), (9, 0, .if_icmp .ge 36), (12, 0, .aload 0), (13, 0, .iload 1), (14, 0, .iload 4), (16, 1802, .invokevirtual 713869), (19, 0, .aload 0), (20, 0, .iload 2), (21, 0, .iload 4), (23, 1802, .invokevirtual 713869), (26, 0, .if_icmp .le 19), (29, 0, .iconst 0), (30, 0, .areturn), (31, 0, .iload 3), (32, 0, .ifCond .ne 30), (35, 0, .aload 0), (36, 0, .iload 1), (37, 0, .iload 4), (39, 1802, .invokevirtual 713869), (42, 0, .aload 0), (43, 0, .iload 2), (44, 0, .iload 4), (46, 1802, .invokevirtual 713869), (49, 0, .if_icmp .ge 32), (52, 0, .iconst 1), (53, 0, .goto 33), (56, 0, .iconst 0), (57, 0, .istore 3), (58, 0, .iinc 4 1), (61, 0, .goto 4), (64, 0, .iload 3), (65, 0, .areturn)]
abbrev k_Model_vain : Nat := 164
def cd_Model_vain : List (Nat × Nat × Instr) := [(0, 0, .aload 0), (1, 0, .iload 1), (2, 0, .iload 2), (3, 0, .iload 3), (4, 0, .iload 4), (6, 1658, .invokevirtual 712085), (9, 0, .ifCond .ne 9), (12, 0, .iconst (-2)), (14, 0, .ireturn), (15, 0, .aload 0), (16, 0, .iload 1), (17, 0, .iload 2), (18, 0, .iload 3), (19, 0, .iload 4), (21, 1798, .invokevirtual 713492), (24, 0, .iconst 0), (25, 0, .istore 5), (27, 0, .iconst 0), (28, 0, .istore 6), (30, 0, .nop), (30, 0, .iload 6), (32, 0, .iconst 10), (34, 0, .if_icmp .ge 44), (37, 0, .iconst 0), (38, 0, .istore 7), (40, 0, .nop), (40, 0, .iload 7), (42, 0, .iconst 10), (44, 0, .if_icmp .ge 42), (47, 0, .aload 0), (48, 0, .iload 6), (50, 0, .iload 7), (52, 1838, .invokevirtual 714445), (55, 0, .ifCond .eq 40), (58, 0, .iload 5), (60, 0, .iconst 1), (61, 0, .iload 6), (63, 0, .ishl), (64, 0, .ior), (65, 0, .istore 5), (67, 0, .iinc 7 1), (70, 0, .goto 25), (73, 0, .iinc 6 1), (76, 0, .goto 19), (79, 0, .iload 5), (81, 0, .ireturn)]
abbrev k_Model_plays : Nat := 165
def cd_Model_plays_0 : List (Nat × Nat × Instr) := [(0, 0, .iconst 0), (1, 0, .istore 4), (3, 0, .nop), (3, 0, .iload 4), (5, 0, .iconst 10), (7, 0, .if_icmp .ge 13), (10, 0, .aload 0), (11, 1378, .getfield 45154), (14, 0, .iload 4), (16, 0, .iconst 0), (17, 0, .iastore), (18, 0, .iinc 4 1), (21, 0, .goto 2), (24, 0, .aload 0), (25, 0, .iconst 0), (26, 1383, .putfield 45172), (29, 0, .iconst 0), (30, 0, .istore 4), (32, 0, .iconst 0), (33, 0, .istore 5), (35, 0, .nop), (35, 0, .iload 4), (37, 0, .aload 0), (38, 1376, .getfield 45144), (41, 0, .if_icmp .ge 125), (44, 0, .iload 5), (46, 0, .aload 0), (47, 1377, .getfield 45148), (50, 0, .if_icmp .ge 125), (53, 0, .aload 0), (54, 1374, .getfield 45138), (57, 0, .iload 4), (59, 0, .iaload), (60, 0, .istore 6), (62, 0, .aload 0), (63, 1375, .getfield 45142), (66, 0, .iload 5), (68, 0, .iaload), (69, 0, .istore 7), (71, 0, .aload 0), (72, 0, .iload 6), (74, 0, .iload 7), (76, 0, .iload 1), (77, 0, .iload 2), (78, 0, .aload 0), (79, 1378, .getfield 45154), (82, 0, .iload 6), (84, 0, .iaload), (85, 0, .aload 0), (86, 1378, .getfield 45154), (89, 0, .iload 7), (91, 0, .iaload), (92, 0, .iload 3), (93, 1692, .invokevirtual 712480), (96, 0, .aload 0), (97, 1378, .getfield 45154), (100, 0, .iload 6), (102, 0, .dup2), (103, 0, .iaload), (104, 0, .aload 0), (105, 1370, .getfield 45120), (108, 0, .iadd), (109, 0, .iastore), (110, 0, .aload 0), (111, 1378, .getfield 45154), (114, 0, .iload 7), (116, 0, .dup2), (117, 0, .iaload), (118, 0, .aload 0), (119, 1370, .getfield 45120), (122, 0, .iadd), (123, 0, .iastore), (124, 0, .aload 0), (125, 1379, .getfield 45158), (128, 0, .aload 0), (129, 1383, .getfield 45172), (132, 0, .iload 6), (134, 0, .iastore), (135, 0, .aload 0), (136, 1380, .getfield 45162), (139, 0, .aload 0), (140, 1383, .getfield 45172), (143, 0, .iload 7), (145, 0, .iastore), (146, 0, .aload 0), (147, 1381, .getfield 45166), (150, 0, .aload 0), (151, 1383, .getfield 45172), (154, 0, .aload 0), (155, 1369, .getfield 45116), (158, 0, .iastore), (159, 0, .aload 0), (160, 1382, .getfield 45170), (163, 0, .aload 0), (164, 1383, .getfield 45172), (167, 0, .aload 0), (168, 1370, .getfield 45120), (171, 0, .iastore), (172, 0, .aload 0), (173, 0, .dup)]
def cd_Model_plays_1 : List (Nat × Nat × Instr) := [(174, 1383, .getfield 45172), (177, 0, .iconst 1), (178, 0, .iadd), (179, 1383, .putfield 45172), (182, 0, .iload 4), (184, 0, .aload 0), (185, 1369, .getfield 45116), (188, 0, .iconst 2), (189, 0, .if_icmp .ne 111), (192, 0, .iconst 0), (193, 0, .goto 112), (196, 0, .iconst 1), (197, 0, .iadd), (198, 0, .istore 4), (200, 0, .iload 5), (202, 0, .aload 0), (203, 1369, .getfield 45116), (206, 0, .iconst 1), (207, 0, .if_icmp .ne 121), (210, 0, .iconst 0), (211, 0, .goto 122), (214, 0, .iconst 1), (215, 0, .iadd), (216, 0, .istore 5), (218, 0, .goto 20), (221, 0, .aload 0), (222, 0, .iload 4), (224, 0, .aload 0), (225, 1376, .getfield 45144), (228, 0, .if_icmp .ge 132), (231, 0, .iconst 0), (232, 0, .goto 139), (235, 0, .iload 5), (237, 0, .aload 0), (238, 1377, .getfield 45148), (241, 0, .if_icmp .ge 138), (244, 0, .iconst 1), (245, 0, .goto 139), (248, 0, .iconst 2), (249, 1384, .putfield 45176), (252, 0, .aload 0), (253, 0, .aload 0), (254, 1384, .getfield 45176), (257, 0, .ifCond .ne 149), (260, 0, .aload 0), (261, 1376, .getfield 45144), (264, 0, .iload 4), (266, 0, .isub), (267, 0, .goto 159), (270, 0, .aload 0), (271, 1384, .getfield 45176), (274, 0, .iconst 1), (275, 0, .if_icmp .ne 158), (278, 0, .aload 0), (279, 1377, .getfield 45148), (282, 0, .iload 5), (284, 0, .isub), (285, 0, .goto 159), (288, 0, .iconst 0), (289, 1385, .putfield 45180), (292, 0, .return_)]
def cd_Model_plays : List (Nat × Nat × Instr) := cd_Model_plays_0 ++ (cd_Model_plays_1)
abbrev k_Model_layRows : Nat := 166
def cd_Model_layRows : List (Nat × Nat × Instr) := [(0, 0, .aload 0), (1, 0, .aload 0), (2, 0, .iload 1), (3, 1619, .invokevirtual 710025), (6, 1376, .putfield 45144), (9, 0, .aload 0), (10, 0, .aload 0), (11, 0, .iload 2), (12, 1619, .invokevirtual 710025), (15, 1377, .putfield 45148), (18, 0, .iconst 0), (19, 0, .istore 3), (20, 0, .nop), (20, 0, .iload 3), (21, 0, .aload 0), (22, 1376, .getfield 45144), (25, 0, .if_icmp .ge 27), (28, 0, .aload 0), (29, 1374, .getfield 45138), (32, 0, .iload 3), (33, 0, .aload 0), (34, 0, .iload 1), (35, 0, .iload 3), (36, 1623, .invokevirtual 710093), (39, 0, .iastore), (40, 0, .iinc 3 1), (43, 0, .goto 12), (46, 0, .iconst 0), (47, 0, .istore 3), (48, 0, .nop), (48, 0, .iload 3), (49, 0, .aload 0), (50, 1377, .getfield 45148), (53, 0, .if_icmp .ge 44), (56, 0, .aload 0), (57, 1375, .getfield 45142), (60, 0, .iload 3), (61, 0, .aload 0), (62, 0, .iload 2), (63, 0, .iload 3), (64, 1623, .invokevirtual 710093), (67, 0, .iastore), (68, 0, .iinc 3 1), (71, 0, .goto 29), (74, 0, .return_)]
abbrev k_Model_areTeams : Nat := 167
def cd_Model_areTeams : List (Nat × Nat × Instr) := [(0, 0, .aload 0), (1, 0, .iload 1), (2, 1611, .invokevirtual 709641), (5, 0, .ifCond .eq 11), (8, 0, .aload 0), (9, 0, .iload 2), (10, 1611, .invokevirtual 709641), (13, 0, .ifCond .eq 11), (16, 0, .iload 1), (17, 0, .iload 2), (18, 0, .if_icmp .ne 13), (21, 0, .iconst 0), (22, 0, .areturn), (23, 0, .iconst 0), (24, 0, .istore 3), (25, 0, .nop), (25, 0, .iload 3), (26, 0, .aload 0), (27, 0, .iload 1), (28, 1619, .invokevirtual 710025), (31, 0, .if_icmp .ge 44), (34, 0, .iconst 0), (35, 0, .istore 4), (37, 0, .nop), (37, 0, .iload 4), (39, 0, .aload 0), (40, 0, .iload 2), (41, 1619, .invokevirtual 710025), (44, 0, .if_icmp .ge 42), (47, 0, .aload 0), (48, 0, .iload 1), (49, 0, .iload 3), (50, 1623, .invokevirtual 710093), (53, 0, .aload 0), (54, 0, .iload 2), (55, 0, .iload 4), (57, 1623, .invokevirtual 710093), (60, 0, .if_icmp .ne 40), (63, 0, .iconst 0), (64, 0, .areturn), (65, 0, .iinc 4 1), (68, 0, .goto 23), (71, 0, .iinc 3 1), (74, 0, .goto 15), (77, 0, .iconst 1), (78, 0, .areturn)]
abbrev k_Model_playsAsTold : Nat := 168
def cd_Model_playsAsTold : List (Nat × Nat × Instr) := [(0, 0, .aload 0), (1, 0, .iload 1), (2, 0, .iload 2), (3, 1854, .invokevirtual 714636), (6, 0, .aload 0), (7, 0, .aload 0), (8, 0, .iload 1), (9, 1615, .invokevirtual 709961), (12, 0, .aload 0), (13, 0, .iload 2), (14, 1615, .invokevirtual 709961), (17, 0, .iconst 0), (18, 1858, .invokevirtual 714576), (21, 0, .return_)]
abbrev k_Model_ofMatch : Nat := 169
def cd_Model_ofMatch : List (Nat × Nat × Instr) := [(0, 0, .iload 1), (1, 0, .ifCond .ne 5), (4, 0, .aload 0), (5, 1384, .getfield 45176), (8, 0, .goto 13), (11, 0, .iload 1), (12, 0, .iconst 1), (13, 0, .if_icmp .ne 11), (16, 0, .aload 0), (17, 1385, .getfield 45180), (20, 0, .goto 13), (23, 0, .aload 0), (24, 1383, .getfield 45172), (27, 0, .ireturn)]
abbrev k_Model_match : Nat := 170
def cd_Model_match : List (Nat × Nat × Instr) := [(0, 0, .aload 0), (1, 0, .iload 1), (2, 0, .iload 2), (3, 1846, .invokevirtual 714701), (6, 0, .ifCond .eq 11), (9, 0, .iload 3), (10, 0, .i2l), (11, 0, .ldc2_w 0), (12, 1477, .ldc2_w 5), (15, 1478, .invokestatic 5261), (18, 0, .ifCond .ne 13), (21, 0, .iconst (-2)), (23, 0, .ireturn), (24, 0, .aload 0), (25, 0, .iload 1), (26, 0, .iload 2), (27, 1850, .invokevirtual 714764), (30, 0, .aload 0), (31, 0, .iload 3), (32, 1862, .invokevirtual 714825), (35, 0, .ireturn)]
abbrev k_Model_isIn : Nat := 171
def cd_Model_isIn : List (Nat × Nat × Instr) := [(0, 0, .iconst 0), (1, 0, .istore 3), (2, 0, .nop), (2, 0, .iload 3), (3, 0, .aload 0), (4, 0, .iload 1), (5, 1619, .invokevirtual 710025), (8, 0, .if_icmp .ge 18), (11, 0, .aload 0), (12, 0, .iload 1), (13, 0, .iload 3), (14, 1623, .invokevirtual 710093), (17, 0, .iload 2), (18, 0, .if_icmp .ne 16), (21, 0, .iconst 1), (22, 0, .areturn), (23, 0, .iinc 3 1), (26, 0, .goto 2), (29, 0, .iconst 0), (30, 0, .areturn)]
abbrev k_Model_passed : Nat := 172
def cd_Model_passed : List (Nat × Nat × Instr) := [(0, 0, .aload 0), (1, 0, .iload 1), (2, 0, .iload 2), (3, 1846, .invokevirtual 714701), (6, 0, .ifCond .eq 15), (9, 0, .aload 0), (10, 0, .iload 1), (11, 0, .iload 3), (12, 1870, .invokevirtual 714957), (15, 0, .ifCond .ne 17), (18, 0, .aload 0), (19, 0, .iload 2), (20, 0, .iload 3), (21, 1870, .invokevirtual 714957), (24, 0, .ifCond .ne 17), (27, 0, .iconst (-2)), (29, 0, .ireturn), (30, 0, .aload 0), (31, 0, .iload 1), (32, 0, .iload 2), (33, 1850, .invokevirtual 714764), (36, 0, .aload 0), (37, 1378, .getfield 45154), (40, 0, .iload 3), (41, 0, .iaload), (42, 0, .ireturn)]
abbrev k_Model_led : Nat := 173
def cd_Model_led : List (Nat × Nat × Instr) := [(0, 0, .aload 0), (1, 0, .iload 1), (2, 0, .iload 2), (3, 1846, .invokevirtual 714701), (6, 0, .ifCond .eq 11), (9, 0, .iload 4), (11, 0, .i2l), (12, 0, .ldc2_w 0), (13, 1744, .ldc2_w 4), (16, 1478, .invokestatic 5261), (19, 0, .ifCond .ne 13), (22, 0, .iconst (-2)), (24, 0, .ireturn), (25, 0, .aload 0), (26, 0, .iload 1), (27, 0, .iload 2), (28, 1850, .invokevirtual 714764), (31, 0, .iload 3), (32, 0, .i2l), (33, 0, .ldc2_w 0), (34, 0, .aload 0), (35, 1383, .getfield 45172), (38, 0, .iconst 1), (39, 0, .isub), (40, 0, .i2l), (41, 1478, .invokestatic 5261), (44, 0, .ifCond .ne 29), (47, 0, .iconst (-1)), (48, 0, .ireturn), (49, 0, .iload 4), (51, 0, .ifCond .ne 36), (54, 0, .aload 0), (55, 1379, .getfield 45158), (58, 0, .iload 3), (59, 0, .iaload), (60, 0, .goto 56), (63, 0, .iload 4), (65, 0, .iconst 1), (66, 0, .if_icmp .ne 44), (69, 0, .aload 0), (70, 1380, .getfield 45162), (73, 0, .iload 3), (74, 0, .iaload), (75, 0, .goto 56), (78, 0, .iload 4), (80, 0, .iconst 2), (81, 0, .if_icmp .ne 52), (84, 0, .aload 0), (85, 1381, .getfield 45166), (88, 0, .iload 3), (89, 0, .iaload), (90, 0, .goto 56), (93, 0, .aload 0), (94, 1382, .getfield 45170), (97, 0, .iload 3), (98, 0, .iaload), (99, 0, .ireturn)]
abbrev k_Model_sort : Nat := 174
def cd_Model_sort : List (Nat × Nat × Instr) := [(0, 0, .iconst 1), (1, 0, .istore 2), (2, 0, .nop), (2, 0, .iload 2), (3, 0, .iload 1), (4, 0, .if_icmp .ge 38), (7, 0, .aload 0), (8, 0, .iload 2), (9, 0, .iaload), (10, 0, .istore 3), (11, 0, .iload 2), (12, 0, .istore 4), (14, 0, .nop), (14, 0, .iload 4), (16, 0, .ifCond .le 32), (19, 0, .aload 0), (20, 0, .iload 4), (22, 0, .iconst 1), (23, 0, .isub), (24, 0, .iaload), (25, 0, .iload 3), (26, 0, .if_icmp .le 32), (29, 0, .aload 0), (30, 0, .iload 4), (32, 0, .aload 0), (33, 0, .iload 4), (35, 0, .iconst 1), (36, 0, .isub), (37, 0, .iaload), (38, 0, .iastore), (39, 0, .iinc 4 (-1)), (42, 0, .goto 12), (45, 0, .aload 0), (46, 0, .iload 4), (48, 0, .iload 3), (49, 0, .iastore), (50, 0, .iinc 2 1), (53, 0, .goto 2), (56, 0, .return_)]
abbrev k_Model_nextOrder : Nat := 175
def cd_Model_nextOrder : List (Nat × Nat × Instr) := [(0, 0, .iload 1), (1, 0, .iconst 2), (2, 0, .isub), (3, 0, .istore 2), (4, 0, .nop), (4, 0, .iload 2), (5, 0, .ifCond .lt 18), (8, 0, .aload 0), (9, 0, .iload 2), (10, 0, .iaload), (11, 0, .aload 0), (12, 0, .iload 2), (13, 0, .iconst 1), (14, 0, .iadd), (15, 0, .iaload), (16, 0, .if_icmp .le 18), (19, 0, .iinc 2 (-1)), (22, 0, .goto 4), (25, 0, .iload 2), (26, 0, .ifCond .ge 22), (29, 0, .iconst 0), (30, 0, .areturn), (31, 0, .iload 1), (32, 0, .iconst 1), (33, 0, .isub), (34, 0, .istore 3), (35, 0, .nop), (35, 0, .aload 0), (36, 0, .iload 3), (37, 0, .iaload), (38, 0, .aload 0), (39, 0, .iload 2), (40, 0, .iaload), (41, 0, .if_icmp .ge 36), (44, 0, .iinc 3 (-1)), (47, 0, .goto 26), (50, 0, .aload 0), (51, 0, .iload 2), (52, 0, .iload 3), (53, 1896, .invokestatic 11276), (56, 0, .iload 2), (57, 0, .iconst 1), (58, 0, .iadd), (59, 0, .istore 4), (61, 0, .iload 1), (62, 0, .iconst 1), (63, 0, .isub), (64, 0, .istore 5), (66, 0, .nop), (66, 0, .iload 4), (68, 0, .iload 5), (70, 0, .if_icmp .ge 59), (73, 0, .aload 0), (74, 0, .iload 4), (76, 0, .iload 5), (78, 1896, .invokestatic 11276), (81, 0, .iinc 4 1), (84, 0, .iinc 5 (-1)), (87, 0, .goto 48), (90, 0, .iconst 1), (91, 0, .areturn)]
abbrev k_Model_trade : Nat := 176
def cd_Model_trade : List (Nat × Nat × Instr) := [(0, 0, .aload 0), (1, 0, .iload 1), (2, 0, .iaload), (3, 0, .istore 3), (4, 0, .aload 0), (5, 0, .iload 1), (6, 0, .aload 0), (7, 0, .iload 2), (8, 0, .iaload), (9, 0, .iastore), (10, 0, .aload 0), (11, 0, .iload 2), (12, 0, .iload 3), (13, 0, .iastore), (14, 0, .return_)]
abbrev k_Model_worth : Nat := 177
def cd_Model_worth : List (Nat × Nat × Instr) := [(0, 0, .aload 0), (1, 1384, .getfield 45176), (4, 0, .ifCond .ne 8), (7, 0, .iconst 10), (9, 0, .aload 0), (10, 1385, .getfield 45180), (13, 0, .iadd), (14, 0, .goto 18), (17, 0, .aload 0), (18, 1384, .getfield 45176), (21, 0, .iconst 2), (22, 0, .if_icmp .ne 14), (25, 0, .iconst 10), (27, 0, .goto 18), (30, 0, .iconst 10), (32, 0, .aload 0), (33, 1385, .getfield 45180), (36, 0, .isub), (37, 0, .ireturn)]
abbrev k_Model_ordersOf : Nat := 178
def cd_Model_ordersOf : List (Nat × Nat × Instr) := [(0, 0, .aload 0), (1, 0, .iload 1), (2, 0, .iload 2), (3, 1854, .invokevirtual 714636), (6, 0, .aload 0), (7, 1374, .getfield 45138), (10, 0, .aload 0), (11, 1376, .getfield 45144), (14, 1886, .invokestatic 11144), (17, 0, .aload 0), (18, 0, .iconst (-1)), (19, 1387, .putfield 45188), (22, 0, .aload 0), (23, 0, .iconst 0), (24, 1388, .putfield 45192), (27, 0, .nop), (27, 0, .aload 0), (28, 0, .aload 0), (29, 0, .iload 1), (30, 1615, .invokevirtual 709961), (33, 0, .aload 0), (34, 0, .iload 2), (35, 1615, .invokevirtual 709961), (38, 0, .iconst 0), (39, 1858, .invokevirtual 714576), (42, 0, .aload 0), (43, 0, .dup), (44, 1388, .getfield 45192), (47, 0, .aload 0), (48, 1384, .getfield 45176), (51, 0, .ifCond .ne 33), (54, 0, .iconst 1), (55, 0, .goto 34), (58, 0, .iconst 0), (59, 0, .iadd), (60, 1388, .putfield 45192), (63, 0, .aload 0), (64, 1889, .invokevirtual 715333), (67, 0, .aload 0), (68, 1387, .getfield 45188), (71, 0, .if_icmp .le 58), (74, 0, .iconst 0), (75, 0, .istore 3), (76, 0, .nop), (76, 0, .iload 3), (77, 0, .aload 0), (78, 1376, .getfield 45144), (81, 0, .if_icmp .ge 58), (84, 0, .aload 0), (85, 1386, .getfield 45186), (88, 0, .iload 3), (89, 0, .aload 0), (90, 1374, .getfield 45138), (93, 0, .iload 3), (94, 0, .iaload), (95, 0, .iastore), (96, 0, .iinc 3 1), (99, 0, .goto 43), (102, 0, .aload 0), (103, 0, .aload 0), (104, 1387, .getfield 45188), (107, 0, .aload 0), (108, 1889, .invokevirtual 715333), (111, 1639, .invokedynamic 1), (114, 1387, .putfield 45188), (117, 0, .aload 0), (118, 1374, .getfield 45138), (121, 0, .aload 0), (122, 1376, .getfield 45144), (125, 1893, .invokestatic 11209), (128, 0, .ifCond .ne 15), (131, 0, .return_)]
abbrev k_Model_wins : Nat := 179
def cd_Model_wins : List (Nat × Nat × Instr) := [(0, 0, .aload 0), (1, 0, .iload 1), (2, 0, .iload 2), (3, 1846, .invokevirtual 714701), (6, 0, .ifCond .ne 7), (9, 0, .iconst (-2)), (11, 0, .ireturn), (12, 0, .aload 0), (13, 0, .iload 1), (14, 0, .iload 2), (15, 1882, .invokevirtual 715404), (18, 0, .aload 0), (19, 1388, .getfield 45192), (22, 0, .ireturn)]
abbrev k_Model_order : Nat := 180
def cd_Model_order : List (Nat × Nat × Instr) := [(0, 0, .aload 0), (1, 0, .iload 1), (2, 0, .iload 2), (3, 1846, .invokevirtual 714701), (6, 0, .ifCond .ne 7), (9, 0, .iconst (-2)), (11, 0, .ireturn), (12, 0, .aload 0), (13, 0, .iload 1), (14, 0, .iload 2), (15, 1882, .invokevirtual 715404), (18, 0, .iload 3), (19, 0, .i2l), (20, 0, .ldc2_w 0), (21, 0, .aload 0), (22, 1376, .getfield 45144), (25, 0, .iconst 1), (26, 0, .isub), (27, 0, .i2l), (28, 1478, .invokestatic 5261), (31, 0, .ifCond .eq 26), (34, 0, .aload 0), (35, 1386, .getfield 45186), (38, 0, .iload 3), (39, 0, .iaload), (40, 0, .goto 27), (43, 0, .iconst (-1)), (44, 0, .ireturn)]
abbrev k_Model_beatenOrders : Nat := 181
def cd_Model_beatenOrders : List (Nat × Nat × Instr) := [(0, 0, .aload 0), (1, 1375, .getfield 45142), (4, 0, .aload 0), (5, 1377, .getfield 45148), (8, 1886, .invokestatic 11144), (11, 0, .iconst 0), (12, 0, .istore 3), (13, 0, .nop), (13, 0, .aload 0), (14, 0, .aload 0), (15, 0, .iload 1), (16, 1615, .invokevirtual 709961), (19, 0, .aload 0), (20, 0, .iload 2), (21, 1615, .invokevirtual 709961), (24, 0, .iconst 0), (25, 1858, .invokevirtual 714576), (28, 0, .iload 3), (29, 0, .aload 0), (30, 1384, .getfield 45176), (33, 0, .ifCond .ne 23), (36, 0, .iconst 1), (37, 0, .goto 24), (40, 0, .iconst 0), (41, 0, .iadd), (42, 0, .istore 3), (43, 0, .aload 0), (44, 1375, .getfield 45142), (47, 0, .aload 0), (48, 1377, .getfield 45148), (51, 1893, .invokestatic 11209), (54, 0, .ifCond .ne 7), (57, 0, .iload 3), (58, 0, .ireturn)]
abbrev k_Model_boldOf : Nat := 182
def cd_Model_boldOf : List (Nat × Nat × Instr) := [(0, 0, .aload 0), (1, 0, .iload 1), (2, 0, .iload 2), (3, 1854, .invokevirtual 714636), (6, 0, .aload 0), (7, 1374, .getfield 45138), (10, 0, .aload 0), (11, 1376, .getfield 45144), (14, 1886, .invokestatic 11144), (17, 0, .aload 0), (18, 0, .iconst (-1)), (19, 1387, .putfield 45188), (22, 0, .nop), (22, 0, .aload 0), (23, 0, .iload 1), (24, 0, .iload 2), (25, 1911, .invokevirtual 715597), (28, 0, .istore 3), (29, 0, .iload 3), (30, 0, .aload 0), (31, 1387, .getfield 45188), (34, 0, .if_icmp .le 39), (37, 0, .iconst 0), (38, 0, .istore 4), (40, 0, .nop), (40, 0, .iload 4), (42, 0, .aload 0), (43, 1376, .getfield 45144), (46, 0, .if_icmp .ge 39), (49, 0, .aload 0), (50, 1386, .getfield 45186), (53, 0, .iload 4), (55, 0, .aload 0), (56, 1374, .getfield 45138), (59, 0, .iload 4), (61, 0, .iaload), (62, 0, .iastore), (63, 0, .iinc 4 1), (66, 0, .goto 24), (69, 0, .aload 0), (70, 0, .aload 0), (71, 1387, .getfield 45188), (74, 0, .iload 3), (75, 1639, .invokedynamic 1), (78, 1387, .putfield 45188), (81, 0, .aload 0), (82, 1374, .getfield 45138), (85, 0, .aload 0), (86, 1376, .getfield 45144), (89, 1893, .invokestatic 11209), (92, 0, .ifCond .ne 12), (95, 0, .return_)]
abbrev k_Model_bold : Nat := 183
def cd_Model_bold : List (Nat × Nat × Instr) := [(0, 0, .aload 0), (1, 0, .iload 1), (2, 0, .iload 2), (3, 1846, .invokevirtual 714701), (6, 0, .ifCond .ne 7), (9, 0, .iconst (-2)), (11, 0, .ireturn), (12, 0, .aload 0), (13, 0, .iload 1), (14, 0, .iload 2), (15, 1907, .invokevirtual 715660), (18, 0, .iload 3), (19, 0, .iconst (-1)), (20, 0, .if_icmp .ne 17), (23, 0, .aload 0), (24, 1387, .getfield 45188), (27, 0, .goto 33), (30, 0, .iload 3), (31, 0, .i2l), (32, 0, .ldc2_w 0), (33, 0, .aload 0), (34, 1376, .getfield 45144), (37, 0, .iconst 1), (38, 0, .isub), (39, 0, .i2l), (40, 1478, .invokestatic 5261), (43, 0, .ifCond .eq 32), (46, 0, .aload 0), (47, 1386, .getfield 45186), (50, 0, .iload 3), (51, 0, .iaload), (52, 0, .goto 33), (55, 0, .iconst (-1)), (56, 0, .ireturn)]
abbrev k_Model_ordersMany : Nat := 184
def cd_Model_ordersMany : List (Nat × Nat × Instr) := [(0, 0, .iconst 1), (1, 0, .istore 1), (2, 0, .iconst 2), (3, 0, .istore 2), (4, 0, .nop), (4, 0, .iload 2), (5, 0, .iload 0), (6, 0, .if_icmp .gt 14), (9, 0, .iload 1), (10, 0, .iload 2), (11, 0, .imul), (12, 0, .istore 1), (13, 0, .iinc 2 1), (16, 0, .goto 4), (19, 0, .iload 1), (20, 0, .ireturn)]
abbrev k_Model_sure : Nat := 185
def cd_Model_sure : List (Nat × Nat × Instr) := [(0, 0, .aload 0), (1, 0, .iload 1), (2, 0, .iload 2), (3, 1846, .invokevirtual 714701), (6, 0, .ifCond .ne 7), (9, 0, .iconst (-2)), (11, 0, .ireturn), (12, 0, .aload 0), (13, 0, .iload 1), (14, 0, .iload 2), (15, 1907, .invokevirtual 715660), (18, 0, .aload 0), (19, 1387, .getfield 45188), (22, 0, .aload 0), (23, 1377, .getfield 45148), (26, 1919, .invokestatic 11781), (29, 0, .if_icmp .ne 19), (32, 0, .iconst 1), (33, 0, .goto 20), (36, 0, .iconst 0), (37, 0, .ireturn)]
abbrev k_Model_pillar : Nat := 186
def cd_Model_pillar : List (Nat × Nat × Instr) := [(0, 0, .aload 0), (1, 0, .iload 1), (2, 0, .iload 2), (3, 1846, .invokevirtual 714701), (6, 0, .ifCond .ne 7), (9, 0, .iconst (-2)), (11, 0, .ireturn), (12, 0, .aload 0), (13, 0, .iload 1), (14, 1619, .invokevirtual 710025), (17, 0, .iconst 1), (18, 0, .if_icmp .ne 14), (21, 0, .iconst (-1)), (22, 0, .ireturn), (23, 0, .iconst (-1)), (24, 0, .istore 3), (25, 1926, .iconst 1000000), (28, 0, .istore 4), (30, 0, .iconst 0), (31, 0, .istore 5), (33, 0, .nop), (33, 0, .iload 5), (35, 0, .aload 0), (36, 0, .iload 1), (37, 1619, .invokevirtual 710025), (40, 0, .if_icmp .ge 81), (43, 0, .aload 0), (44, 0, .iload 1), (45, 0, .iload 2), (46, 1854, .invokevirtual 714636), (49, 0, .iload 5), (51, 0, .istore 6), (53, 0, .nop), (53, 0, .iload 6), (55, 0, .iconst 1), (56, 0, .iadd), (57, 0, .aload 0), (58, 1376, .getfield 45144), (61, 0, .if_icmp .ge 51), (64, 0, .aload 0), (65, 1374, .getfield 45138), (68, 0, .iload 6), (70, 0, .aload 0), (71, 1374, .getfield 45138), (74, 0, .iload 6), (76, 0, .iconst 1), (77, 0, .iadd), (78, 0, .iaload), (79, 0, .iastore), (80, 0, .iinc 6 1), (83, 0, .goto 32), (86, 0, .aload 0), (87, 0, .dup), (88, 1376, .getfield 45144), (91, 0, .iconst 1), (92, 0, .isub), (93, 1376, .putfield 45144), (96, 0, .aload 0), (97, 0, .aload 0), (98, 0, .iload 1), (99, 1615, .invokevirtual 709961), (102, 0, .aload 0), (103, 0, .iload 2), (104, 1615, .invokevirtual 709961), (107, 0, .iconst 0), (108, 1858, .invokevirtual 714576), (111, 0, .aload 0), (112, 1889, .invokevirtual 715333), (115, 0, .iload 4), (117, 0, .if_icmp .lt 71), (120, 0, .goto 79), (123, 0, .aload 0), (124, 0, .iload 1), (125, 0, .iload 5), (127, 1623, .invokevirtual 710093), (130, 0, .istore 3), (131, 0, .aload 0), (132, 1889, .invokevirtual 715333), (135, 0, .istore 4), (137, 0, .iinc 5 1), (140, 0, .goto 20), (143, 0, .iload 3), (144, 0, .ireturn)]
abbrev k_Model_swap : Nat := 187
def cd_Model_swap : List (Nat × Nat × Instr) := [(0, 0, .aload 0), (1, 0, .iload 1), (2, 1611, .invokevirtual 709641), (5, 0, .ifCond .eq 26), (8, 0, .iload 2), (9, 0, .i2l), (10, 0, .ldc2_w 0), (11, 0, .aload 0), (12, 0, .iload 1), (13, 1619, .invokevirtual 710025), (16, 0, .iconst 1), (17, 0, .isub), (18, 0, .i2l), (19, 1478, .invokestatic 5261), (22, 0, .ifCond .eq 26), (25, 0, .iload 3), (26, 0, .i2l), (27, 0, .ldc2_w 0), (28, 0, .aload 0), (29, 0, .iload 1), (30, 1619, .invokevirtual 710025), (33, 0, .iconst 1), (34, 0, .isub), (35, 0, .i2l), (36, 1478, .invokestatic 5261), (39, 0, .ifCond .ne 28), (42, 0, .iconst (-2)), (44, 0, .ireturn), (45, 0, .aload 0), (46, 1355, .getfield 45062), (49, 0, .iconst 78), (51, 0, .iconst 7), (53, 0, .iload 1), (54, 0, .imul), (55, 0, .iadd), (56, 0, .iconst 2), (57, 0, .iadd), (58, 0, .iload 2), (59, 0, .iadd), (60, 0, .iconst 78), (62, 0, .iconst 7), (64, 0, .iload 1), (65, 0, .imul), (66, 0, .iadd), (67, 0, .iconst 2), (68, 0, .iadd), (69, 0, .iload 3), (70, 0, .iadd), (71, 1896, .invokestatic 11276), (74, 0, .iconst 0), (75, 0, .ireturn)]
abbrev k_Model_isPart : Nat := 188
def cd_Model_isPart : List (Nat × Nat × Instr) := [(0, 0, .iload 0), (1, 0, .ifCond .ne 8), (4, 0, .iload 1), (5, 0, .i2l), (6, 1938, .ldc2_w 20), (9, 1939, .ldc2_w 21), (12, 1478, .invokestatic 5261), (15, 0, .goto 50), (18, 0, .iload 0), (19, 0, .iconst 1), (20, 0, .if_icmp .eq 14), (23, 0, .iload 0), (24, 0, .iconst 2), (25, 0, .if_icmp .ne 20), (28, 0, .iload 1), (29, 0, .i2l), (30, 0, .ldc2_w 0), (31, 1940, .ldc2_w 22), (34, 1478, .invokestatic 5261), (37, 0, .goto 50), (40, 0, .iload 0), (41, 0, .iconst 3), (42, 0, .if_icmp .ne 29), (45, 0, .iload 1), (46, 0, .i2l), (47, 0, .ldc2_w 0), (48, 1797, .ldc2_w 19), (51, 1478, .invokestatic 5261), (54, 0, .goto 50), (57, 0, .iload 0), (58, 0, .iconst 4), (59, 0, .if_icmp .ne 38), (62, 0, .iload 1), (63, 0, .i2l), (64, 0, .ldc2_w 0), (65, 1941, .ldc2_w 23), (68, 1478, .invokestatic 5261), (71, 0, .goto 50), (74, 0, .iload 0), (75, 0, .iconst 5), (76, 0, .if_icmp .ne 49), (79, 0, .iload 1), (80, 0, .i2l), (81, 0, .ldc2_w 0), (82, 1477, .ldc2_w 5), (85, 1478, .invokestatic 5261), (88, 0, .ifCond .eq 49), (91, 0, .iconst 1), (92, 0, .goto 50), (95, 0, .iconst 0), (96, 0, .areturn)]
abbrev k_Model_train : Nat := 189
def cd_Model_train : List (Nat × Nat × Instr) := [(0, 0, .aload 0), (1, 0, .iload 1), (2, 0, .i2l), (3, 1590, .invokevirtual 709577), (6, 0, .ifCond .eq 9), (9, 0, .iload 2), (10, 0, .iload 3), (11, 1935, .invokestatic 12041), (14, 0, .ifCond .ne 11), (17, 0, .iconst (-2)), (19, 0, .ireturn), (20, 0, .aload 0), (21, 0, .iload 1), (22, 0, .iload 2), (23, 1595, .invokevirtual 709709), (26, 0, .istore 4), (28, 0, .aload 0), (29, 0, .iload 1), (30, 0, .iload 2), (31, 0, .iload 3), (32, 1770, .invokevirtual 709776), (35, 0, .iload 4), (37, 0, .ireturn)]
abbrev k_Model_mend : Nat := 190
def cd_Model_mend : List (Nat × Nat × Instr) := [(0, 0, .aload 0), (1, 0, .iload 1), (2, 1603, .invokevirtual 709513), (5, 0, .ifCond .eq 24), (8, 0, .iload 2), (9, 0, .i2l), (10, 0, .ldc2_w 0), (11, 0, .ldc2_w 1), (12, 1478, .invokestatic 5261), (15, 0, .ifCond .eq 24), (18, 0, .iload 3), (19, 0, .i2l), (20, 0, .iload 2), (21, 0, .ifCond .ne 16), (24, 1477, .ldc2_w 5), (27, 0, .goto 17), (30, 0, .ldc2_w 0), (31, 0, .iload 2), (32, 0, .ifCond .ne 21), (35, 1716, .ldc2_w 17), (38, 0, .goto 22), (41, 1941, .ldc2_w 23), (44, 1478, .invokestatic 5261), (47, 0, .ifCond .ne 26), (50, 0, .iconst (-2)), (52, 0, .ireturn), (53, 0, .aload 0), (54, 1355, .getfield 45062), (57, 0, .iconst 10), (59, 0, .iconst 2), (60, 0, .iload 1), (61, 0, .imul), (62, 0, .iadd), (63, 0, .iload 2), (64, 0, .iadd), (65, 0, .iaload), (66, 0, .istore 4), (68, 0, .aload 0), (69, 1355, .getfield 45062), (72, 0, .iconst 10), (74, 0, .iconst 2), (75, 0, .iload 1), (76, 0, .imul), (77, 0, .iadd), (78, 0, .iload 2), (79, 0, .iadd), (80, 0, .iload 3), (81, 0, .iastore), (82, 0, .iload 4), (84, 0, .ireturn)]
abbrev k_Model_rule : Nat := 191
def cd_Model_rule : List (Nat × Nat × Instr) := [(0, 0, .iload 1), (1, 0, .ifCond .ne 8), (4, 0, .iload 2), (5, 0, .i2l), (6, 0, .ldc2_w 0), (7, 1716, .ldc2_w 17), (10, 1478, .invokestatic 5261), (13, 0, .goto 38), (16, 0, .iload 1), (17, 0, .iconst 1), (18, 0, .if_icmp .ne 17), (21, 0, .iload 2), (22, 0, .i2l), (23, 0, .ldc2_w 0), (24, 1797, .ldc2_w 19), (27, 1478, .invokestatic 5261), (30, 0, .goto 38), (33, 0, .iload 1), (34, 0, .iconst 2), (35, 0, .if_icmp .ne 26), (38, 0, .iload 2), (39, 0, .i2l), (40, 0, .ldc2_w 1), (41, 1950, .ldc2_w 24), (44, 1478, .invokestatic 5261), (47, 0, .goto 38), (50, 0, .iload 1), (51, 0, .iconst 3), (52, 0, .if_icmp .ne 37), (55, 0, .iload 2), (56, 0, .i2l), (57, 0, .ldc2_w 0), (58, 1951, .ldc2_w 25), (61, 1478, .invokestatic 5261), (64, 0, .ifCond .eq 37), (67, 0, .iconst 1), (68, 0, .goto 38), (71, 0, .iconst 0), (72, 0, .istore 3), (73, 0, .aload 0), (74, 1952, .invokevirtual 709445), (77, 0, .ifCond .eq 44), (80, 0, .iload 3), (81, 0, .ifCond .ne 46), (84, 0, .iconst (-2)), (86, 0, .ireturn), (87, 0, .iload 1), (88, 0, .ifCond .ne 50), (91, 0, .iconst 1), (92, 0, .goto 61), (95, 0, .iload 1), (96, 0, .iconst 1), (97, 0, .if_icmp .ne 55), (100, 0, .iconst 0), (101, 0, .goto 61), (104, 0, .iload 1), (105, 0, .iconst 2), (106, 0, .if_icmp .ne 60), (109, 0, .iconst 2), (110, 0, .goto 61), (113, 0, .iconst 5), (114, 0, .istore 4), (116, 0, .aload 0), (117, 1355, .getfield 45062), (120, 0, .iload 4), (122, 0, .iaload), (123, 0, .istore 5), (125, 0, .aload 0), (126, 1355, .getfield 45062), (129, 0, .iload 4), (131, 0, .iload 2), (132, 0, .iastore), (133, 0, .iload 5), (135, 0, .ireturn)]
abbrev k_Model_edgeMen : Nat := 192
def cd_Model_edgeMen : List (Nat × Nat × Instr) := [(0, 0, .iconst 0), (1, 0, .istore 1), (2, 0, .iconst 0), (3, 0, .istore 2), (4, 0, .nop), (4, 0, .iload 2), (5, 0, .aload 0), (6, 1355, .getfield 45062), (9, 0, .iconst 7), (11, 0, .iaload), (12, 0, .if_icmp .ge 25), (15, 0, .iload 1), (16, 0, .aload 0), (17, 0, .iload 2), (18, 0, .iconst 5), (19, 1595, .invokevirtual 709709), (22, 0, .iconst 2), (23, 0, .if_icmp .ne 20), (26, 0, .iconst 1), (27, 0, .goto 21), (30, 0, .iconst 0), (31, 0, .iadd), (32, 0, .istore 1), (33, 0, .iinc 2 1), (36, 0, .goto 4), (39, 0, .iload 1), (40, 0, .ireturn)]
abbrev k_Model_tellsOf : Nat := 193
def cd_Model_tellsOf : List (Nat × Nat × Instr) := [(0, 1739, .ldc2_w 18), (3, 0, .aload 0), (4, 1355, .getfield 45062), (7, 0, .iconst 5), (8, 0, .iaload), (9, 0, .i2l), (10, 0, .lsub), (11, 0, .lstore 4), (13, 0, .aload 0), (14, 1355, .getfield 45062), (17, 0, .iconst 5), (18, 0, .iaload), (19, 0, .i2l), (20, 0, .lstore 6), (22, 0, .iload 3), (23, 0, .ifCond .eq 20), (26, 0, .aload 0), (27, 1964, .invokevirtual 716293), (30, 0, .i2l), (31, 0, .goto 28), (34, 0, .aload 0), (35, 1355, .getfield 45062), (38, 0, .iconst 7), (40, 0, .iaload), (41, 0, .aload 0), (42, 1964, .invokevirtual 716293), (45, 0, .isub), (46, 0, .i2l), (47, 0, .lstore 8), (49, 0, .lload 8), (51, 0, .iload 3), (52, 0, .ifCond .eq 42), (55, 0, .lload 4), (57, 0, .iload 1), (58, 1754, .invokestatic 9226), (61, 0, .lload 6), (63, 0, .iload 2), (64, 0, .iload 1), (65, 0, .isub), (66, 1754, .invokestatic 9226), (69, 0, .lmul), (70, 0, .goto 51), (73, 0, .lload 6), (75, 0, .iload 1), (76, 1754, .invokestatic 9226), (79, 0, .lload 4), (81, 0, .iload 2), (82, 0, .iload 1), (83, 0, .isub), (84, 1754, .invokestatic 9226), (87, 0, .lmul), (88, 0, .lmul), (89, 0, .lreturn)]
abbrev k_Model_judge : Nat := 194
def cd_Model_judge : List (Nat × Nat × Instr) := [(0, 0, .aload 0), (1, 1355, .getfield 45062), (4, 0, .iconst 7), (6, 0, .iaload), (7, 0, .ifCond .eq 24), (10, 0, .iload 2), (11, 0, .i2l), (12, 0, .ldc2_w 1), (13, 1941, .ldc2_w 23), (16, 1478, .invokestatic 5261), (19, 0, .ifCond .eq 24), (22, 0, .iload 1), (23, 0, .i2l), (24, 0, .ldc2_w 0), (25, 0, .iload 2), (26, 0, .i2l), (27, 1478, .invokestatic 5261), (30, 0, .ifCond .eq 24), (33, 0, .iload 3), (34, 0, .i2l), (35, 0, .ldc2_w 0), (36, 0, .ldc2_w 1), (37, 1478, .invokestatic 5261), (40, 0, .ifCond .ne 26), (43, 1753, .ldc2_w 2), (46, 0, .lreturn), (47, 0, .aload 0), (48, 0, .iload 1), (49, 0, .iload 2), (50, 0, .iconst 1), (51, 1960, .invokevirtual 716370), (54, 0, .lstore 4), (56, 0, .lload 4), (58, 0, .aload 0), (59, 0, .iload 1), (60, 0, .iload 2), (61, 0, .iconst 0), (62, 1960, .invokevirtual 716370), (65, 0, .ladd), (66, 0, .lstore 6), (68, 0, .lload 6), (70, 0, .ldc2_w 0), (71, 0, .lcmp), (72, 0, .ifCond .ne 46), (75, 1968, .ldc2_w 3), (78, 0, .goto 50), (81, 0, .lload 4), (83, 0, .lload 6), (85, 0, .iload 3), (86, 1729, .invokestatic 8846), (89, 0, .lreturn)]
abbrev k_Model_needed : Nat := 195
def cd_Model_needed : List (Nat × Nat × Instr) := [(0, 0, .aload 0), (1, 1355, .getfield 45062), (4, 0, .iconst 7), (6, 0, .iaload), (7, 0, .ifCond .eq 11), (10, 0, .iload 1), (11, 0, .i2l), (12, 0, .ldc2_w 1), (13, 1941, .ldc2_w 23), (16, 1478, .invokestatic 5261), (19, 0, .ifCond .ne 13), (22, 0, .iconst (-2)), (24, 0, .ireturn), (25, 0, .iconst 0), (26, 0, .istore 2), (27, 0, .nop), (27, 0, .iload 2), (28, 0, .iload 1), (29, 0, .if_icmp .gt 35), (32, 0, .aload 0), (33, 0, .iload 2), (34, 0, .iload 1), (35, 0, .iconst 1), (36, 1960, .invokevirtual 716370), (39, 0, .aload 0), (40, 0, .iload 2), (41, 0, .iload 1), (42, 0, .iconst 0), (43, 1960, .invokevirtual 716370), (46, 0, .lcmp), (47, 0, .ifCond .le 33), (50, 0, .iload 2), (51, 0, .ireturn), (52, 0, .iinc 2 1), (55, 0, .goto 15), (58, 0, .iconst (-1)), (59, 0, .ireturn)]
abbrev k_Model_numberAt : Nat := 196
def cd_Model_numberAt : List (Nat × Nat × Instr) := [(0, 0, .aload 0), (1, 1391, .getfield 45206), (4, 0, .iconst 60), (6, 0, .iload 1), (7, 0, .imul), (8, 0, .iload 2), (9, 0, .iadd), (10, 0, .laload), (11, 0, .lreturn)]
abbrev k_Model_asksPictures : Nat := 197
def cd_Model_asksPictures : List (Nat × Nat × Instr) := [(0, 0, .iload 1), (1, 1981, .invokestatic 14149), (4, 0, .ifCond .eq 11), (7, 0, .aload 0), (8, 1355, .getfield 45062), (11, 0, .iconst 6), (13, 0, .iaload), (14, 0, .iconst 2), (15, 0, .if_icmp .lt 11), (18, 0, .iload 2), (19, 0, .ifCond .ne 13), (22, 0, .iconst (-2)), (24, 0, .ireturn), (25, 0, .aload 0), (26, 1389, .getfield 45198), (29, 0, .iload 1), (30, 0, .iaload), (31, 0, .iconst (-1)), (32, 0, .if_icmp .ne 21), (35, 0, .iconst (-6)), (37, 0, .ireturn), (38, 0, .aload 0), (39, 1389, .getfield 45198), (42, 0, .iload 1), (43, 0, .iaload), (44, 0, .iconst 3), (45, 0, .irem), (46, 0, .ifCond .eq 30), (49, 0, .iconst (-2)), (51, 0, .ireturn), (52, 0, .iconst 0), (53, 0, .istore 3), (54, 0, .nop), (54, 0, .iload 3), (55, 0, .aload 0), (56, 1389, .getfield 45198), (59, 0, .iload 1), (60, 0, .iaload), (61, 0, .if_icmp .ge 81), (64, 0, .aload 0), (65, 0, .aload 0), (66, 0, .iload 1), (67, 0, .iload 3), (68, 1984, .invokevirtual 716558), (71, 1590, .invokevirtual 709577), (74, 0, .ifCond .eq 77), (77, 0, .aload 0), (78, 0, .aload 0), (79, 0, .iload 1), (80, 0, .iload 3), (81, 0, .iconst 1), (82, 0, .iadd), (83, 1984, .invokevirtual 716558), (86, 1590, .invokevirtual 709577), (89, 0, .ifCond .eq 77), (92, 0, .aload 0), (93, 0, .iload 1), (94, 0, .iload 3), (95, 1984, .invokevirtual 716558), (98, 0, .aload 0), (99, 0, .iload 1), (100, 0, .iload 3), (101, 0, .iconst 1), (102, 0, .iadd), (103, 1984, .invokevirtual 716558), (106, 0, .lcmp), (107, 0, .ifCond .eq 77), (110, 0, .aload 0), (111, 0, .iload 1), (112, 0, .iload 3), (113, 0, .iconst 2), (114, 0, .iadd), (115, 1984, .invokevirtual 716558), (118, 0, .ldc2_w 0), (119, 1744, .ldc2_w 4), (122, 1478, .invokestatic 5261), (125, 0, .ifCond .ne 79), (128, 0, .iconst (-2)), (130, 0, .ireturn), (131, 0, .iinc 3 3), (134, 0, .goto 32), (137, 0, .iconst 0), (138, 0, .ireturn)]
abbrev k_Model_isSo : Nat := 198
def cd_Model_isSo : List (Nat × Nat × Instr) := [(0, 0, .aload 0), (1, 0, .aload 0), (2, 0, .iload 1), (3, 0, .iload 2), (4, 1984, .invokevirtual 716558), (7, 0, .l2i), (8, 0, .aload 0), (9, 0, .iload 1), (10, 0, .iload 2), (11, 0, .iconst 1), (12, 0, .iadd), (13, 1984, .invokevirtual 716558), (16, 0, .l2i), (17, 0, .aload 0), (18, 0, .iconst 0), (19, 0, .iconst 1), (20, 1631, .invokevirtual 711309), (23, 0, .iconst 0), (24, 0, .iconst 0), (25, 0, .iload 3), (26, 1672, .invokevirtual 711645), (29, 0, .i2l), (30, 0, .aload 0), (31, 0, .iload 1), (32, 0, .iload 2), (33, 0, .iconst 2), (34, 0, .iadd), (35, 1984, .invokevirtual 716558), (38, 0, .lcmp), (39, 0, .ifCond .ne 32), (42, 0, .iconst 1), (43, 0, .goto 33), (46, 0, .iconst 0), (47, 0, .areturn)]
abbrev k_Model_gapsOf : Nat := 199
def cd_Model_gapsOf : List (Nat × Nat × Instr) := [(0, 0, .iconst 0), (1, 0, .istore 2), (2, 0, .iconst 0), (3, 0, .istore 3), (4, 0, .nop), (4, 0, .iload 3), (5, 0, .iconst 20), (7, 0, .if_icmp .gt 41), (10, 0, .iconst 1), (11, 0, .istore 4), (13, 0, .iconst 0), (14, 0, .istore 5), (16, 0, .nop), (16, 0, .iload 5), (18, 0, .aload 0), (19, 1389, .getfield 45198), (22, 0, .iload 1), (23, 0, .iaload), (24, 0, .if_icmp .ge 29), (27, 0, .iload 4), (29, 0, .ifCond .eq 29), (32, 0, .aload 0), (33, 0, .iload 1), (34, 0, .iload 5), (36, 0, .iload 3), (37, 1992, .invokevirtual 716689), (40, 0, .istore 4), (42, 0, .iinc 5 3), (45, 0, .goto 12), (48, 0, .iload 2), (49, 0, .iload 4), (51, 0, .ifCond .eq 36), (54, 0, .iconst 1), (55, 0, .iload 3), (56, 0, .ishl), (57, 0, .goto 37), (60, 0, .iconst 0), (61, 0, .ior), (62, 0, .istore 2), (63, 0, .iinc 3 1), (66, 0, .goto 4), (69, 0, .iload 2), (70, 0, .ireturn)]
abbrev k_Model_gaps : Nat := 200
def cd_Model_gaps : List (Nat × Nat × Instr) := [(0, 0, .aload 0), (1, 0, .iload 1), (2, 0, .iconst 1), (3, 1977, .invokevirtual 716621), (6, 0, .istore 2), (7, 0, .iload 2), (8, 0, .ifCond .ge 9), (11, 0, .iload 2), (12, 0, .goto 12), (15, 0, .aload 0), (16, 0, .iload 1), (17, 1988, .invokevirtual 716745), (20, 0, .ireturn)]
abbrev k_Model_himself : Nat := 201
def cd_Model_himself : List (Nat × Nat × Instr) := [(0, 0, .aload 0), (1, 0, .iload 1), (2, 0, .iload 2), (3, 0, .i2l), (4, 0, .ldc2_w 0), (5, 1477, .ldc2_w 5), (8, 1478, .invokestatic 5261), (11, 1977, .invokevirtual 716621), (14, 0, .istore 3), (15, 0, .iload 3), (16, 0, .ifCond .ge 13), (19, 0, .iload 3), (20, 0, .ireturn), (21, 0, .aload 0), (22, 0, .iload 1), (23, 1988, .invokevirtual 716745), (26, 0, .istore 4), (28, 0, .iload 4), (30, 0, .ifCond .ne 21), (33, 0, .iconst (-1)), (34, 0, .ireturn), (35, 0, .iconst 0), (36, 0, .istore 5), (38, 0, .iconst 0), (39, 0, .istore 6), (41, 0, .nop), (41, 0, .iload 6), (43, 0, .aload 0), (44, 1389, .getfield 45198), (47, 0, .iload 1), (48, 0, .iaload), (49, 0, .if_icmp .ge 90), (52, 0, .iconst 1), (53, 0, .istore 7), (55, 0, .iconst 0), (56, 0, .istore 8), (58, 0, .nop), (58, 0, .iload 8), (60, 0, .iconst 20), (62, 0, .if_icmp .gt 80), (65, 0, .iload 4), (67, 0, .iload 8), (69, 0, .ishr), (70, 0, .iconst 1), (71, 0, .iand), (72, 0, .iconst 1), (73, 0, .if_icmp .ne 78), (76, 0, .iload 7), (78, 0, .ifCond .eq 76), (81, 0, .aload 0), (82, 0, .aload 0), (83, 0, .iload 1), (84, 0, .iload 6), (86, 1984, .invokevirtual 716558), (89, 0, .l2i), (90, 0, .aload 0), (91, 0, .iload 1), (92, 0, .iload 6), (94, 0, .iconst 1), (95, 0, .iadd), (96, 1984, .invokevirtual 716558), (99, 0, .l2i), (100, 0, .aload 0), (101, 0, .iconst 0), (102, 0, .iconst 1), (103, 1631, .invokevirtual 711309), (106, 0, .iconst 0), (107, 0, .iconst 0), (108, 0, .iload 8), (110, 1676, .invokevirtual 711581), (113, 0, .iload 2), (114, 0, .iconst 1), (115, 0, .iadd), (116, 0, .if_icmp .ne 76), (119, 0, .iconst 1), (120, 0, .goto 77), (123, 0, .iconst 0), (124, 0, .istore 7), (126, 0, .iinc 8 1), (129, 0, .goto 36), (132, 0, .iload 5), (134, 0, .iload 7), (136, 0, .ifCond .eq 85), (139, 0, .iconst 1), (140, 0, .goto 86), (143, 0, .iconst 0), (144, 0, .iadd), (145, 0, .istore 5), (147, 0, .iinc 6 3), (150, 0, .goto 25), (153, 0, .iload 5), (155, 0, .ireturn)]
abbrev k_Model_odd : Nat := 202
def cd_Model_odd : List (Nat × Nat × Instr) := [(0, 0, .aload 0), (1, 0, .iload 1), (2, 0, .iconst 1), (3, 1977, .invokevirtual 716621), (6, 0, .istore 2), (7, 0, .iload 2), (8, 0, .ifCond .ge 9), (11, 0, .iload 2), (12, 0, .ireturn), (13, 0, .iconst 0), (14, 0, .istore 3), (15, 0, .nop), (15, 0, .iconst 3), (16, 0, .iload 3), (17, 0, .imul), (18, 0, .aload 0), (19, 1389, .getfield 45198), (22, 0, .iload 1), (23, 0, .iaload), (24, 0, .if_icmp .ge 35), (27, 0, .aload 0), (28, 0, .iload 1), (29, 0, .iconst 3), (30, 0, .iload 3), (31, 0, .imul), (32, 0, .aload 0), (33, 1355, .getfield 45062), (36, 0, .iconst 1), (37, 0, .iaload), (38, 1992, .invokevirtual 716689), (41, 0, .ifCond .ne 33), (44, 0, .iload 3), (45, 0, .ireturn), (46, 0, .iinc 3 1), (49, 0, .goto 11), (52, 0, .iconst (-1)), (53, 0, .ireturn)]
abbrev k_Model_wave : Nat := 203
def cd_Model_wave : List (Nat × Nat × Instr) := [(0, 0, .aload 0), (1, 0, .iload 1), (2, 1603, .invokevirtual 709513), (5, 0, .ifCond .eq 20), (8, 0, .iload 2), (9, 0, .i2l), (10, 0, .ldc2_w 0), (11, 2008, .ldc2_w 26), (14, 1478, .invokestatic 5261), (17, 0, .ifCond .eq 20), (20, 0, .iconst 4), (21, 0, .aload 0), (22, 0, .iload 1), (23, 1635, .invokevirtual 709833), (26, 0, .imul), (27, 0, .iload 2), (28, 0, .iconst 1), (29, 0, .iadd), (30, 0, .idiv), (31, 0, .goto 21), (34, 0, .iconst (-2)), (36, 0, .ireturn)]
abbrev k_Model_calm : Nat := 204
def cd_Model_calm : List (Nat × Nat × Instr) := [(0, 0, .aload 0), (1, 0, .iload 1), (2, 1603, .invokevirtual 709513), (5, 0, .ifCond .eq 10), (8, 0, .iload 2), (9, 0, .i2l), (10, 0, .ldc2_w 0), (11, 1649, .ldc2_w 11), (14, 1478, .invokestatic 5261), (17, 0, .ifCond .ne 12), (20, 0, .iconst (-2)), (22, 0, .ireturn), (23, 0, .iconst 0), (24, 0, .istore 3), (25, 0, .nop), (25, 0, .iconst 4), (26, 0, .aload 0), (27, 0, .iload 1), (28, 1635, .invokevirtual 709833), (31, 0, .imul), (32, 0, .iload 3), (33, 0, .iconst 1), (34, 0, .iadd), (35, 0, .idiv), (36, 0, .iload 2), (37, 0, .if_icmp .le 28), (40, 0, .iinc 3 1), (43, 0, .goto 14), (46, 0, .iload 3), (47, 0, .ireturn)]
abbrev k_Model_firstPass : Nat := 205
def cd_Model_firstPass : List (Nat × Nat × Instr) := [(0, 0, .aload 0), (1, 0, .iload 1), (2, 0, .iload 2), (3, 0, .aload 0), (4, 0, .iload 3), (5, 0, .iload 4), (7, 1631, .invokevirtual 711309), (10, 0, .iconst 0), (11, 0, .iconst 0), (12, 0, .aload 0), (13, 1355, .getfield 45062), (16, 0, .iconst 1), (17, 0, .iaload), (18, 1672, .invokevirtual 711645), (21, 0, .ireturn)]
abbrev k_Model_champion : Nat := 206
def cd_Model_champion : List (Nat × Nat × Instr) := [(0, 0, .aload 0), (1, 0, .iload 1), (2, 1603, .invokevirtual 709513), (5, 0, .ifCond .eq 8), (8, 0, .aload 0), (9, 0, .iload 2), (10, 1603, .invokevirtual 709513), (13, 0, .ifCond .ne 10), (16, 0, .iconst (-2)), (18, 0, .ireturn), (19, 0, .aload 0), (20, 1355, .getfield 45062), (23, 0, .iconst 7), (25, 0, .iaload), (26, 0, .iconst 2), (27, 0, .if_icmp .ge 18), (30, 0, .iconst (-1)), (31, 0, .ireturn), (32, 0, .iconst (-1)), (33, 0, .istore 3), (34, 1926, .iconst 1000000), (37, 0, .istore 4), (39, 0, .iconst 0), (40, 0, .istore 5), (42, 0, .nop), (42, 0, .iload 5), (44, 0, .aload 0), (45, 1355, .getfield 45062), (48, 0, .iconst 7), (50, 0, .iaload), (51, 0, .if_icmp .ge 70), (54, 0, .iconst 0), (55, 0, .istore 6), (57, 0, .iconst 0), (58, 0, .istore 7), (60, 0, .nop), (60, 0, .iload 7), (62, 0, .aload 0), (63, 1355, .getfield 45062), (66, 0, .iconst 7), (68, 0, .iaload), (69, 0, .if_icmp .ge 60), (72, 0, .iload 6), (74, 0, .iload 7), (76, 0, .iload 5), (78, 0, .if_icmp .eq 55), (81, 0, .aload 0), (82, 0, .iload 5), (84, 0, .iload 7), (86, 0, .iload 1), (87, 0, .iload 2), (88, 2017, .invokevirtual 717141), (91, 0, .iconst 2), (92, 0, .irem), (93, 0, .goto 56), (96, 0, .iconst 0), (97, 0, .iadd), (98, 0, .istore 6), (100, 0, .iinc 7 1), (103, 0, .goto 35), (106, 0, .iload 6), (108, 0, .iload 4), (110, 0, .if_icmp .lt 64), (113, 0, .goto 68), (116, 0, .iload 5), (118, 0, .istore 3), (119, 0, .iload 6), (121, 0, .istore 4), (123, 0, .iinc 5 1), (126, 0, .goto 24), (129, 0, .iload 3), (130, 0, .ireturn)]
abbrev k_Model_beaten : Nat := 207
def cd_Model_beaten : List (Nat × Nat × Instr) := [(0, 0, .aload 0), (1, 0, .iload 1), (2, 0, .i2l), (3, 1590, .invokevirtual 709577), (6, 0, .ifCond .eq 13), (9, 0, .aload 0), (10, 0, .iload 2), (11, 1603, .invokevirtual 709513), (14, 0, .ifCond .eq 13), (17, 0, .aload 0), (18, 0, .iload 3), (19, 1603, .invokevirtual 709513), (22, 0, .ifCond .ne 15), (25, 0, .iconst (-2)), (27, 0, .ireturn), (28, 0, .iconst 0), (29, 0, .istore 4), (31, 0, .iconst 0), (32, 0, .istore 5), (34, 0, .nop), (34, 0, .iload 5), (36, 0, .aload 0), (37, 1355, .getfield 45062), (40, 0, .iconst 7), (42, 0, .iaload), (43, 0, .if_icmp .ge 53), (46, 0, .iload 4), (48, 0, .iload 5), (50, 0, .iload 1), (51, 0, .if_icmp .eq 48), (54, 0, .aload 0), (55, 0, .iload 1), (56, 0, .iload 5), (58, 0, .aload 0), (59, 0, .iload 2), (60, 0, .iload 3), (61, 1631, .invokevirtual 711309), (64, 0, .iconst 0), (65, 0, .iconst 0), (66, 0, .aload 0), (67, 1355, .getfield 45062), (70, 0, .iconst 1), (71, 0, .iaload), (72, 1676, .invokevirtual 711581), (75, 0, .iconst 3), (76, 0, .if_icmp .ne 48), (79, 0, .iconst 1), (80, 0, .goto 49), (83, 0, .iconst 0), (84, 0, .iadd), (85, 0, .istore 4), (87, 0, .iinc 5 1), (90, 0, .goto 19), (93, 0, .iload 4), (95, 0, .ireturn)]
abbrev k_Model_hasOut : Nat := 208
def cd_Model_hasOut : List (Nat × Nat × Instr) := [(0, 0, .iload 1), (1, 0, .iload 2), (2, 0, .if_icmp .eq 13), (5, 0, .aload 0), (6, 0, .iload 1), (7, 0, .iload 2), (8, 0, .iload 3), (9, 0, .iload 4), (11, 2017, .invokevirtual 717141), (14, 0, .iconst 2), (15, 0, .if_icmp .ne 13), (18, 0, .iconst 1), (19, 0, .goto 14), (22, 0, .iconst 0), (23, 0, .areturn)]
abbrev k_Model_ring : Nat := 209
def cd_Model_ring : List (Nat × Nat × Instr) := [(0, 0, .aload 0), (1, 0, .iload 1), (2, 1603, .invokevirtual 709513), (5, 0, .ifCond .eq 8), (8, 0, .aload 0), (9, 0, .iload 2), (10, 1603, .invokevirtual 709513), (13, 0, .ifCond .ne 10), (16, 0, .iconst (-2)), (18, 0, .ireturn), (19, 0, .aload 0), (20, 1355, .getfield 45062), (23, 0, .iconst 7), (25, 0, .iaload), (26, 0, .istore 3), (27, 0, .iconst 0), (28, 0, .istore 4), (30, 0, .nop), (30, 0, .iload 4), (32, 0, .iload 3), (33, 0, .if_icmp .ge 74), (36, 0, .iload 4), (38, 0, .iconst 1), (39, 0, .iadd), (40, 0, .istore 5), (42, 0, .nop), (42, 0, .iload 5), (44, 0, .iload 3), (45, 0, .if_icmp .ge 72), (48, 0, .iload 4), (50, 0, .iconst 1), (51, 0, .iadd), (52, 0, .istore 6), (54, 0, .nop), (54, 0, .iload 6), (56, 0, .iload 3), (57, 0, .if_icmp .ge 70), (60, 0, .aload 0), (61, 0, .iload 4), (63, 0, .iload 5), (65, 0, .iload 1), (66, 0, .iload 2), (67, 2029, .invokevirtual 717333), (70, 0, .ifCond .eq 68), (73, 0, .aload 0), (74, 0, .iload 5), (76, 0, .iload 6), (78, 0, .iload 1), (79, 0, .iload 2), (80, 2029, .invokevirtual 717333), (83, 0, .ifCond .eq 68), (86, 0, .aload 0), (87, 0, .iload 6), (89, 0, .iload 4), (91, 0, .iload 1), (92, 0, .iload 2), (93, 2029, .invokevirtual 717333), (96, 0, .ifCond .eq 68), (99, 0, .iconst 100), (101, 0, .iload 4), (103, 0, .imul), (104, 0, .iconst 10), (106, 0, .iload 5), (108, 0, .imul), (109, 0, .iadd), (110, 0, .iload 6), (112, 0, .iadd), (113, 0, .ireturn), (114, 0, .iinc 6 1), (117, 0, .goto 33), (120, 0, .iinc 5 1), (123, 0, .goto 25), (126, 0, .iinc 4 1), (129, 0, .goto 17), (132, 0, .iconst (-1)), (133, 0, .ireturn)]
abbrev k_Model_marginOf : Nat := 210
def cd_Model_marginOf : List (Nat × Nat × Instr) := [(0, 0, .aload 0), (1, 0, .iload 1), (2, 0, .iload 3), (3, 0, .iload 4), (5, 1650, .invokevirtual 711377), (8, 0, .aload 0), (9, 0, .iload 2), (10, 0, .iload 1), (11, 0, .iload 3), (12, 0, .iload 5), (14, 1662, .invokevirtual 711445), (17, 0, .isub), (18, 0, .ireturn)]
abbrev k_Model_margin : Nat := 211
def cd_Model_margin : List (Nat × Nat × Instr) := [(0, 0, .aload 0), (1, 0, .iload 1), (2, 0, .iload 2), (3, 0, .iload 3), (4, 0, .iload 4), (6, 1658, .invokevirtual 712085), (9, 0, .ifCond .eq 21), (12, 0, .iload 5), (14, 1646, .invokestatic 7941), (17, 0, .ifCond .eq 21), (20, 0, .aload 0), (21, 0, .iload 1), (22, 0, .iload 2), (23, 0, .aload 0), (24, 0, .iload 3), (25, 0, .iload 4), (27, 1631, .invokevirtual 711309), (30, 0, .iload 5), (32, 0, .iload 5), (34, 2037, .invokevirtual 717465), (37, 0, .goto 22), (40, 0, .iconst (-1000)), (43, 0, .ireturn)]
abbrev k_Model_feared : Nat := 212
def cd_Model_feared : List (Nat × Nat × Instr) := [(0, 0, .aload 0), (1, 0, .iload 1), (2, 0, .i2l), (3, 1590, .invokevirtual 709577), (6, 0, .ifCond .eq 13), (9, 0, .aload 0), (10, 0, .iload 2), (11, 1603, .invokevirtual 709513), (14, 0, .ifCond .eq 13), (17, 0, .aload 0), (18, 0, .iload 3), (19, 1603, .invokevirtual 709513), (22, 0, .ifCond .ne 15), (25, 0, .iconst (-2)), (27, 0, .ireturn), (28, 0, .iconst (-1)), (29, 0, .istore 4), (31, 1765, .iconst (-1000000)), (34, 0, .istore 5), (36, 0, .iconst 0), (37, 0, .istore 6), (39, 0, .nop), (39, 0, .iload 6), (41, 0, .aload 0), (42, 1355, .getfield 45062), (45, 0, .iconst 7), (47, 0, .iaload), (48, 0, .if_icmp .ge 65), (51, 0, .iload 6), (53, 0, .iload 1), (54, 0, .if_icmp .eq 63), (57, 0, .aload 0), (58, 0, .iload 6), (60, 0, .iconst 5), (61, 1595, .invokevirtual 709709), (64, 0, .iconst 2), (65, 0, .if_icmp .eq 63), (68, 0, .aload 0), (69, 0, .iload 6), (71, 0, .iload 1), (72, 0, .aload 0), (73, 0, .iload 2), (74, 0, .iload 3), (75, 1631, .invokevirtual 711309), (78, 0, .iconst 0), (79, 0, .iconst 0), (80, 2037, .invokevirtual 717465), (83, 0, .iload 5), (85, 0, .if_icmp .gt 50), (88, 0, .goto 63), (91, 0, .iload 6), (93, 0, .istore 4), (95, 0, .aload 0), (96, 0, .iload 6), (98, 0, .iload 1), (99, 0, .aload 0), (100, 0, .iload 2), (101, 0, .iload 3), (102, 1631, .invokevirtual 711309), (105, 0, .iconst 0), (106, 0, .iconst 0), (107, 2037, .invokevirtual 717465), (110, 0, .istore 5), (112, 0, .iinc 6 1), (115, 0, .goto 21), (118, 0, .iload 4), (120, 0, .ireturn)]
abbrev k_Model_weary : Nat := 213
def cd_Model_weary : List (Nat × Nat × Instr) := [(0, 0, .aload 0), (1, 0, .iload 1), (2, 0, .iload 2), (3, 0, .iload 3), (4, 0, .iload 4), (6, 1658, .invokevirtual 712085), (9, 0, .ifCond .ne 9), (12, 0, .iconst (-2)), (14, 0, .ireturn), (15, 0, .iconst 0), (16, 0, .istore 5), (18, 0, .nop), (18, 0, .iload 5), (20, 0, .iconst 100), (22, 0, .if_icmp .ge 30), (25, 0, .aload 0), (26, 0, .iload 1), (27, 0, .iload 2), (28, 0, .aload 0), (29, 0, .iload 3), (30, 0, .iload 4), (32, 1631, .invokevirtual 711309), (35, 0, .iload 5), (37, 0, .iconst 0), (38, 2037, .invokevirtual 717465), (41, 0, .ifCond .gt 28), (44, 0, .iload 5), (46, 0, .ireturn), (47, 0, .iinc 5 1), (50, 0, .goto 11), (53, 0, .iconst (-1)), (54, 0, .ireturn)]
abbrev k_Model_part_1 : Nat := 214
def cd_Model_part_1 : List (Nat × Nat × Instr) := [(0, 0, .aload 0), (1, 0, .iload 1), (2, 0, .iload 2), (3, 0, .iload 3), (4, 0, .iload 4), (6, 1658, .invokevirtual 712085), (9, 0, .ifCond .ne 9), (12, 0, .iconst (-1000)), (15, 0, .ireturn), (16, 0, .aload 0), (17, 0, .iload 1), (18, 0, .iload 2), (19, 0, .iload 3), (20, 0, .iload 4), (22, 2017, .invokevirtual 717141), (25, 0, .istore 5), (27, 0, .iload 5), (29, 0, .iconst 2), (30, 0, .if_icmp .ne 21), (33, 0, .iconst 1), (34, 0, .goto 27), (37, 0, .iload 5), (39, 0, .iconst 1), (40, 0, .if_icmp .ne 26), (43, 0, .iconst (-1)), (44, 0, .goto 27), (47, 0, .iconst 0), (48, 0, .istore 6), (50, 0, .aload 0), (51, 0, .iload 1), (52, 0, .iload 2), (53, 0, .iload 3), (54, 0, .iload 4), (56, 1774, .invokevirtual 713109), (59, 0, .iload 6), (61, 0, .aload 0), (62, 0, .iload 3), (63, 0, .iload 4), (65, 1725, .invokevirtual 712589), (68, 0, .imul), (69, 0, .isub), (70, 0, .ireturn)]
abbrev k_Model_isSeed : Nat := 215
def cd_Model_isSeed : List (Nat × Nat × Instr) := [(0, 0, .iload 0), (1, 0, .i2l), (2, 0, .ldc2_w 0), (3, 2060, .ldc2_w 27), (6, 1478, .invokestatic 5261), (9, 0, .areturn)]
abbrev k_Model_goesDrawn : Nat := 216
def cd_Model_goesDrawn : List (Nat × Nat × Instr) := [(0, 0, .aload 0), (1, 0, .lload 1), (2, 1372, .putfield 45129), (5, 0, .aload 0), (6, 0, .iconst 0), (7, 1371, .putfield 45124), (10, 0, .aload 0), (11, 0, .iload 3), (12, 0, .iload 4), (14, 0, .iload 5), (16, 0, .iload 6), (18, 0, .iconst 0), (19, 0, .iconst 0), (20, 0, .iconst 1), (21, 1692, .invokevirtual 712480), (24, 0, .return_)]
abbrev k_Model_drawn : Nat := 217
def cd_Model_drawn : List (Nat × Nat × Instr) := [(0, 0, .iload 1), (1, 2057, .invokestatic 13765), (4, 0, .ifCond .eq 16), (7, 0, .aload 0), (8, 0, .iload 2), (9, 0, .iload 3), (10, 0, .iload 4), (12, 0, .iload 5), (14, 1658, .invokevirtual 712085), (17, 0, .ifCond .eq 16), (20, 0, .iload 6), (22, 0, .i2l), (23, 0, .ldc2_w 0), (24, 1477, .ldc2_w 5), (27, 1478, .invokestatic 5261), (30, 0, .ifCond .ne 18), (33, 0, .iconst (-2)), (35, 0, .ireturn), (36, 0, .aload 0), (37, 0, .iload 1), (38, 0, .i2l), (39, 0, .iload 2), (40, 0, .iload 3), (41, 0, .iload 4), (43, 0, .iload 5), (45, 2061, .invokevirtual 717848), (48, 0, .iload 6), (50, 0, .ifCond .ne 31), (53, 0, .aload 0), (54, 1369, .getfield 45116), (57, 0, .goto 46), (60, 0, .iload 6), (62, 0, .iconst 2), (63, 0, .if_icmp .ne 37), (66, 0, .aload 0), (67, 1371, .getfield 45124), (70, 0, .goto 46), (73, 0, .aload 0), (74, 1369, .getfield 45116), (77, 0, .ifCond .ne 42), (80, 0, .iconst (-1)), (81, 0, .goto 46), (84, 0, .aload 0), (85, 1370, .getfield 45120), (88, 0, .iconst 1), (89, 0, .isub), (90, 0, .ireturn)]
abbrev k_Model_years : Nat := 218
def cd_Model_years : List (Nat × Nat × Instr) := [(0, 0, .iload 1), (1, 2057, .invokestatic 13765), (4, 0, .ifCond .eq 22), (7, 0, .iload 2), (8, 0, .i2l), (9, 0, .ldc2_w 1), (10, 1671, .ldc2_w 12), (13, 1478, .invokestatic 5261), (16, 0, .ifCond .eq 22), (19, 0, .aload 0), (20, 0, .iload 3), (21, 0, .iload 4), (23, 0, .iload 5), (25, 0, .iload 6), (27, 1658, .invokevirtual 712085), (30, 0, .ifCond .eq 22), (33, 0, .iload 7), (35, 0, .i2l), (36, 0, .ldc2_w 0), (37, 1744, .ldc2_w 4), (40, 1478, .invokestatic 5261), (43, 0, .ifCond .ne 24), (46, 0, .iconst (-2)), (48, 0, .ireturn), (49, 0, .iconst 0), (50, 0, .istore 8), (52, 0, .iconst 0), (53, 0, .istore 9), (55, 0, .nop), (55, 0, .iload 9), (57, 0, .iload 2), (58, 0, .if_icmp .ge 55), (61, 0, .aload 0), (62, 0, .iload 1), (63, 0, .i2l), (64, 0, .iload 9), (66, 0, .i2l), (67, 0, .ladd), (68, 0, .iload 3), (69, 0, .iload 4), (71, 0, .iload 5), (73, 0, .iload 6), (75, 2061, .invokevirtual 717848), (78, 0, .iload 8), (80, 0, .aload 0), (81, 1369, .getfield 45116), (84, 0, .iload 7), (86, 0, .if_icmp .ne 50), (89, 0, .iconst 1), (90, 0, .goto 51), (93, 0, .iconst 0), (94, 0, .iadd), (95, 0, .istore 8), (97, 0, .iinc 9 1), (100, 0, .goto 28), (103, 0, .iload 8), (105, 0, .ireturn)]
abbrev k_Model_day : Nat := 219
def cd_Model_day : List (Nat × Nat × Instr) := [(0, 0, .iload 1), (1, 2057, .invokestatic 13765), (4, 0, .ifCond .eq 14), (7, 0, .aload 0), (8, 0, .iload 2), (9, 0, .iload 3), (10, 1846, .invokevirtual 714701), (13, 0, .ifCond .eq 14), (16, 0, .iload 4), (18, 0, .i2l), (19, 0, .ldc2_w 0), (20, 1477, .ldc2_w 5), (23, 1478, .invokestatic 5261), (26, 0, .ifCond .ne 16), (29, 0, .iconst (-2)), (31, 0, .ireturn), (32, 0, .aload 0), (33, 0, .iload 2), (34, 0, .iload 3), (35, 1854, .invokevirtual 714636), (38, 0, .aload 0), (39, 0, .iload 1), (40, 0, .i2l), (41, 1372, .putfield 45129), (44, 0, .aload 0), (45, 0, .aload 0), (46, 0, .iload 2), (47, 1615, .invokevirtual 709961), (50, 0, .aload 0), (51, 0, .iload 3), (52, 1615, .invokevirtual 709961), (55, 0, .iconst 1), (56, 1858, .invokevirtual 714576), (59, 0, .aload 0), (60, 0, .iload 4), (62, 1862, .invokevirtual 714825), (65, 0, .ireturn)]
abbrev k_Model_count : Nat := 220
def cd_Model_count : List (Nat × Nat × Instr) := [(0, 0, .iconst 0), (1, 0, .istore 2), (2, 0, .iload 1), (3, 0, .tableswitch 79 0 11 #[4, 9, 14, 19, 24, 29, 34, 39, 44, 49, 54, 57]), (64, 0, .aload 0), (65, 1355, .getfield 45062), (68, 0, .iconst 6), (70, 0, .iaload), (71, 0, .ireturn), (72, 0, .aload 0), (73, 1355, .getfield 45062), (76, 0, .iconst 7), (78, 0, .iaload), (79, 0, .ireturn), (80, 0, .aload 0), (81, 1355, .getfield 45062), (84, 0, .iconst 8), (86, 0, .iaload), (87, 0, .ireturn), (88, 0, .aload 0), (89, 1355, .getfield 45062), (92, 0, .iconst 0), (93, 0, .iaload), (94, 0, .ireturn), (95, 0, .aload 0), (96, 1355, .getfield 45062), (99, 0, .iconst 1), (100, 0, .iaload), (101, 0, .ireturn), (102, 0, .aload 0), (103, 1355, .getfield 45062), (106, 0, .iconst 2), (107, 0, .iaload), (108, 0, .ireturn), (109, 0, .aload 0), (110, 1355, .getfield 45062), (113, 0, .iconst 3), (114, 0, .iaload), (115, 0, .ireturn), (116, 0, .aload 0), (117, 1355, .getfield 45062), (120, 0, .iconst 4), (121, 0, .iaload), (122, 0, .ireturn), (123, 0, .aload 0), (124, 1355, .getfield 45062), (127, 0, .iconst 5), (128, 0, .iaload), (129, 0, .ireturn), (130, 0, .aload 0), (131, 1355, .getfield 45062), (134, 0, .iconst 9), (136, 0, .iaload), (137, 0, .ireturn), (138, 0, .aload 0), (139, 1359, .getfield 45076), (142, 0, .ireturn), (143, 0, .iconst 0), (144, 0, .istore 3), (145, 0, .nop), (145, 0, .iload 3), (146, 0, .iconst 4), (147, 0, .if_icmp .ge 77), (150, 0, .iload 2), (151, 0, .aload 0), (152, 1389, .getfield 45198), (155, 0, .iload 3), (156, 0, .iaload), (157, 0, .iconst (-1)), (158, 0, .if_icmp .ne 72), (161, 0, .iconst 0), (162, 0, .goto 73), (165, 0, .iconst 1), (166, 0, .iadd), (167, 0, .istore 2), (168, 0, .iinc 3 1), (171, 0, .goto 59), (174, 0, .iload 2), (175, 0, .ireturn), (176, 0, .iconst (-1)), (177, 0, .ireturn)]
abbrev k_Model_isSlot : Nat := 221
def cd_Model_isSlot : List (Nat × Nat × Instr) := [(0, 0, .iload 0), (1, 0, .i2l), (2, 0, .ldc2_w 0), (3, 1744, .ldc2_w 4), (6, 1478, .invokestatic 5261), (9, 0, .areturn)]
abbrev k_Model_cut : Nat := 222
def cd_Model_cut : List (Nat × Nat × Instr) := [(0, 0, .iconst 64), (2, 0, .iconst 8), (4, 0, .iload 2), (5, 0, .ishl), (6, 0, .isub), (7, 0, .istore 3), (8, 0, .lload 0), (9, 0, .iload 3), (10, 0, .lshl), (11, 0, .iload 3), (12, 0, .lshr), (13, 0, .lreturn)]
abbrev k_Model_row : Nat := 223
def cd_Model_row : List (Nat × Nat × Instr) := [(0, 0, .iload 1), (1, 1981, .invokestatic 14149), (4, 0, .ifCond .eq 12), (7, 0, .iload 2), (8, 0, .i2l), (9, 0, .ldc2_w 0), (10, 1744, .ldc2_w 4), (13, 1478, .invokestatic 5261), (16, 0, .ifCond .eq 12), (19, 0, .iload 3), (20, 0, .iconst 60), (22, 0, .if_icmp .le 14), (25, 0, .iconst (-2)), (27, 0, .ireturn), (28, 0, .iload 3), (29, 0, .ifCond .ge 18), (32, 0, .iconst (-3)), (34, 0, .ireturn), (35, 0, .aload 0), (36, 1389, .getfield 45198), (39, 0, .iload 1), (40, 0, .iload 3), (41, 0, .iastore), (42, 0, .aload 0), (43, 1390, .getfield 45202), (46, 0, .iload 1), (47, 0, .iload 2), (48, 0, .iastore), (49, 0, .iconst 0), (50, 0, .istore 4), (52, 0, .nop), (52, 0, .iload 4), (54, 0, .iconst 60), (56, 0, .if_icmp .ge 45), (59, 0, .aload 0), (60, 1391, .getfield 45206), (63, 0, .iconst 60), (65, 0, .iload 1), (66, 0, .imul), (67, 0, .iload 4), (69, 0, .iadd), (70, 0, .ldc2_w 0), (71, 0, .lastore), (72, 0, .iinc 4 1), (75, 0, .goto 30), (78, 0, .iconst 0), (79, 0, .ireturn)]
abbrev k_Model_write : Nat := 224
def cd_Model_write : List (Nat × Nat × Instr) := [(0, 0, .iload 1), (1, 1981, .invokestatic 14149), (4, 0, .ifCond .ne 5), (7, 0, .iconst (-2)), (9, 0, .ireturn), (10, 0, .aload 0), (11, 1389, .getfield 45198), (14, 0, .iload 1), (15, 0, .iaload), (16, 0, .iconst (-1)), (17, 0, .if_icmp .ne 13), (20, 0, .iconst (-6)), (22, 0, .ireturn), (23, 0, .iload 2), (24, 0, .i2l), (25, 0, .ldc2_w 0), (26, 0, .aload 0), (27, 1389, .getfield 45198), (30, 0, .iload 1), (31, 0, .iaload), (32, 0, .iconst 1), (33, 0, .isub), (34, 0, .i2l), (35, 1478, .invokestatic 5261), (38, 0, .ifCond .ne 27), (41, 0, .iconst (-7)), (43, 0, .ireturn), (44, 0, .aload 0), (45, 1391, .getfield 45206), (48, 0, .iconst 60), (50, 0, .iload 1), (51, 0, .imul), (52, 0, .iload 2), (53, 0, .iadd), (54, 0, .lload 3), (55, 0, .aload 0), (56, 1390, .getfield 45202), (59, 0, .iload 1), (60, 0, .iaload), (61, 2085, .invokestatic 14218), (64, 0, .lastore), (65, 0, .iconst 0), (66, 0, .ireturn)]
abbrev k_Model_paste : Nat := 225
def cd_Model_paste : List (Nat × Nat × Instr) := [(0, 0, .iload 1), (1, 1981, .invokestatic 14149), (4, 0, .ifCond .eq 6), (7, 0, .iload 3), (8, 1981, .invokestatic 14149), (11, 0, .ifCond .ne 8), (14, 0, .iconst (-2)), (16, 0, .ireturn), (17, 0, .aload 0), (18, 1389, .getfield 45198), (21, 0, .iload 1), (22, 0, .iaload), (23, 0, .iconst (-1)), (24, 0, .if_icmp .eq 20), (27, 0, .aload 0), (28, 1389, .getfield 45198), (31, 0, .iload 3), (32, 0, .iaload), (33, 0, .iconst (-1)), (34, 0, .if_icmp .ne 22), (37, 0, .iconst (-6)), (39, 0, .ireturn), (40, 0, .aload 0), (41, 1390, .getfield 45202), (44, 0, .iload 1), (45, 0, .iaload), (46, 0, .aload 0), (47, 1390, .getfield 45202), (50, 0, .iload 3), (51, 0, .iaload), (52, 0, .if_icmp .eq 33), (55, 0, .iconst (-8)), (57, 0, .ireturn), (58, 0, .iload 2), (59, 0, .ifCond .lt 63), (62, 0, .iload 4), (64, 0, .ifCond .lt 63), (67, 0, .iload 5), (69, 0, .ifCond .lt 63), (72, 0, .iload 2), (73, 0, .i2l), (74, 0, .iload 5), (76, 0, .i2l), (77, 0, .ladd), (78, 0, .aload 0), (79, 1389, .getfield 45198), (82, 0, .iload 1), (83, 0, .iaload), (84, 0, .i2l), (85, 0, .lcmp), (86, 0, .ifCond .gt 63), (89, 0, .iload 4), (91, 0, .i2l), (92, 0, .iload 5), (94, 0, .i2l), (95, 0, .ladd), (96, 0, .aload 0), (97, 1389, .getfield 45198), (100, 0, .iload 3), (101, 0, .iaload), (102, 0, .i2l), (103, 0, .lcmp), (104, 0, .ifCond .le 65), (107, 0, .iconst (-7)), (109, 0, .ireturn), (110, 0, .iconst 0), (111, 0, .istore 6), (113, 0, .nop), (113, 0, .iload 6), (115, 0, .iload 5), (117, 0, .if_icmp .ge 87), (120, 0, .aload 0), (121, 1392, .getfield 45210), (124, 0, .iload 6), (126, 0, .aload 0), (127, 1391, .getfield 45206), (130, 0, .iconst 60), (132, 0, .iload 1), (133, 0, .imul), (134, 0, .iload 2), (135, 0, .iadd), (136, 0, .iload 6), (138, 0, .iadd), (139, 0, .laload), (140, 0, .lastore), (141, 0, .iinc 6 1), (144, 0, .goto 67), (147, 0, .iconst 0), (148, 0, .istore 6), (150, 0, .nop), (150, 0, .iload 6), (152, 0, .iload 5), (154, 0, .if_icmp .ge 109), (157, 0, .aload 0), (158, 1391, .getfield 45206), (161, 0, .iconst 60), (163, 0, .iload 3), (164, 0, .imul), (165, 0, .iload 4), (167, 0, .iadd), (168, 0, .iload 6), (170, 0, .iadd), (171, 0, .aload 0), (172, 1392, .getfield 45210), (175, 0, .iload 6), (177, 0, .laload), (178, 0, .lastore), (179, 0, .iinc 6 1), (182, 0, .goto 89), (185, 0, .iconst 0), (186, 0, .ireturn)]
abbrev k_Contest_init : Nat := 226
def cd_Contest_init : List (Nat × Nat × Instr) := [(0, 0, .aload 0), (1, 396, .pop2), (4, 0, .aload 0), (5, 397, .new 7), (8, 0, .dup), (9, 0, .iconst 5), (10, 398, .invokespecial 468488), (13, 401, .putfield 10), (16, 0, .aload 0), (17, 397, .new 7), (20, 0, .dup), (21, 0, .iconst 5), (22, 398, .invokespecial 468488), (25, 402, .putfield 14), (28, 0, .aload 0), (29, 397, .new 7), (32, 0, .dup), (33, 0, .iconst 40), (35, 398, .invokespecial 468488), (38, 403, .putfield 18), (41, 0, .aload 0), (42, 397, .new 7), (45, 0, .dup), (46, 0, .iconst 10), (48, 398, .invokespecial 468488), (51, 408, .putfield 38), (54, 0, .aload 0), (55, 397, .new 7), (58, 0, .dup), (59, 0, .iconst 5), (60, 398, .invokespecial 468488), (63, 410, .putfield 42), (66, 0, .aload 0), (67, 0, .aload 1), (68, 399, .putfield 2), (71, 0, .aload 0), (72, 0, .aload 2), (73, 400, .putfield 6), (76, 0, .return_)]
abbrev k_Contest_lineUp : Nat := 227
def cd_Contest_lineUp : List (Nat × Nat × Instr) := [(0, 0, .aload 0), (1, 400, .getfield 6), (4, 0, .aload 0), (5, 399, .getfield 2), (8, 0, .aload 0), (9, 399, .getfield 2), (12, 0, .iload 1), (13, 1018, .invokevirtual 338633), (16, 0, .aload 0), (17, 399, .getfield 2), (20, 0, .iload 2), (21, 1018, .invokevirtual 338633), (24, 1019, .invokevirtual 143824), (27, 0, .aload 0), (28, 0, .aload 0), (29, 399, .getfield 2), (32, 0, .iload 1), (33, 1020, .invokevirtual 338761), (36, 404, .putfield 20), (39, 0, .aload 0), (40, 0, .aload 0), (41, 399, .getfield 2), (44, 0, .iload 2), (45, 1020, .invokevirtual 338761), (48, 405, .putfield 24), (51, 0, .iconst 0), (52, 0, .istore 3), (53, 0, .nop), (53, 0, .iload 3), (54, 0, .iconst 5), (55, 0, .if_icmp .ge 51), (58, 0, .aload 0), (59, 401, .getfield 10), (62, 0, .iload 3), (63, 0, .aload 0), (64, 399, .getfield 2), (67, 0, .iload 1), (68, 0, .iload 3), (69, 1021, .invokevirtual 338829), (72, 1022, .invokevirtual 468620), (75, 0, .aload 0), (76, 402, .getfield 14), (79, 0, .iload 3), (80, 0, .aload 0), (81, 399, .getfield 2), (84, 0, .iload 2), (85, 0, .iload 3), (86, 1021, .invokevirtual 338829), (89, 1022, .invokevirtual 468620), (92, 0, .iinc 3 1), (95, 0, .goto 27), (98, 0, .return_)]
abbrev k_Contest_leaveOut : Nat := 228
def cd_Contest_leaveOut : List (Nat × Nat × Instr) := [(0, 0, .aload 0), (1, 0, .dup), (2, 404, .getfield 20), (5, 0, .iconst 1), (6, 0, .isub), (7, 404, .putfield 20), (10, 0, .iload 1), (11, 0, .istore 2), (12, 0, .nop), (12, 0, .iload 2), (13, 0, .aload 0), (14, 404, .getfield 20), (17, 0, .if_icmp .ge 25), (20, 0, .aload 0), (21, 401, .getfield 10), (24, 0, .iload 2), (25, 0, .aload 0), (26, 401, .getfield 10), (29, 0, .iload 2), (30, 0, .iconst 1), (31, 0, .iadd), (32, 1028, .invokevirtual 468553), (35, 1022, .invokevirtual 468620), (38, 0, .iinc 2 1), (41, 0, .goto 8), (44, 0, .return_)]
abbrev k_Contest_run : Nat := 229
def cd_Contest_run : List (Nat × Nat × Instr) := [(0, 0, .aload 0), (1, 408, .getfield 38), (4, 0, .iconst 0), (5, 1027, .invokevirtual 468680), (8, 0, .aload 0), (9, 0, .iconst 0), (10, 412, .putfield 44), (13, 0, .iconst 0), (14, 0, .istore 1), (15, 0, .iconst 0), (16, 0, .istore 2), (17, 0, .nop), (17, 0, .iload 1), (18, 0, .aload 0), (19, 404, .getfield 20), (22, 0, .if_icmp .ge 73), (25, 0, .iload 2), (26, 0, .aload 0), (27, 405, .getfield 24), (30, 0, .if_icmp .ge 73), (33, 0, .aload 0), (34, 412, .getfield 44), (37, 0, .iconst 10), (39, 0, .if_icmp .ge 73), (42, 0, .aload 0), (43, 401, .getfield 10), (46, 0, .iload 1), (47, 1028, .invokevirtual 468553), (50, 0, .istore 3), (51, 0, .aload 0), (52, 402, .getfield 14), (55, 0, .iload 2), (56, 1028, .invokevirtual 468553), (59, 0, .istore 4), (61, 0, .aload 0), (62, 0, .iload 3), (63, 0, .aload 0), (64, 408, .getfield 38), (67, 0, .iload 3), (68, 1028, .invokevirtual 468553), (71, 0, .iload 4), (73, 0, .aload 0), (74, 408, .getfield 38), (77, 0, .iload 4), (79, 1028, .invokevirtual 468553), (82, 1029, .invokevirtual 14740), (85, 0, .aload 0), (86, 0, .iload 3), (87, 0, .iload 4), (89, 1035, .invokevirtual 14796), (92, 0, .iload 1), (93, 0, .aload 0), (94, 400, .getfield 6), (97, 352, .getfield 8240), (100, 0, .iconst 2), (101, 0, .if_icmp .ne 58), (104, 0, .iconst 0), (105, 0, .goto 59), (108, 0, .iconst 1), (109, 0, .iadd), (110, 0, .istore 1), (111, 0, .iload 2), (112, 0, .aload 0), (113, 400, .getfield 6), (116, 352, .getfield 8240), (119, 0, .iconst 1), (120, 0, .if_icmp .ne 69), (123, 0, .iconst 0), (124, 0, .goto 70), (127, 0, .iconst 1), (128, 0, .iadd), (129, 0, .istore 2), (130, 0, .goto 11), (133, 0, .aload 0), (134, 0, .aload 0), (135, 404, .getfield 20), (138, 0, .iload 1), (139, 0, .isub), (140, 406, .putfield 28), (143, 0, .aload 0), (144, 0, .aload 0), (145, 405, .getfield 24), (148, 0, .iload 2), (149, 0, .isub), (150, 407, .putfield 32), (153, 0, .return_)]
abbrev k_Contest_fight : Nat := 230
def cd_Contest_fight : List (Nat × Nat × Instr) := [(0, 0, .aload 0), (1, 400, .getfield 6), (4, 331, .getfield 8194), (7, 0, .aload 0), (8, 399, .getfield 2), (11, 0, .iload 1), (12, 1033, .invokevirtual 208716), (15, 0, .aload 0), (16, 400, .getfield 6), (19, 335, .getfield 8198), (22, 0, .aload 0), (23, 399, .getfield 2), (26, 0, .iload 3), (27, 1033, .invokevirtual 208716), (30, 0, .aload 0), (31, 400, .getfield 6), (34, 0, .iload 2), (35, 0, .iload 4), (37, 1034, .invokevirtual 144204), (40, 0, .return_)]
abbrev k_Contest_note : Nat := 231
def cd_Contest_note : List (Nat × Nat × Instr) := [(0, 0, .aload 0), (1, 408, .getfield 38), (4, 0, .iload 1), (5, 0, .aload 0), (6, 408, .getfield 38), (9, 0, .iload 1), (10, 1028, .invokevirtual 468553), (13, 0, .aload 0), (14, 400, .getfield 6), (17, 355, .getfield 8244), (20, 0, .iadd), (21, 1022, .invokevirtual 468620), (24, 0, .aload 0), (25, 408, .getfield 38), (28, 0, .iload 2), (29, 0, .aload 0), (30, 408, .getfield 38), (33, 0, .iload 2), (34, 1028, .invokevirtual 468553), (37, 0, .aload 0), (38, 400, .getfield 6), (41, 355, .getfield 8244), (44, 0, .iadd), (45, 1022, .invokevirtual 468620), (48, 0, .aload 0), (49, 403, .getfield 18), (52, 0, .aload 0), (53, 412, .getfield 44), (56, 0, .iconst 4), (57, 0, .imul), (58, 0, .iload 1), (59, 1022, .invokevirtual 468620), (62, 0, .aload 0), (63, 403, .getfield 18), (66, 0, .aload 0), (67, 412, .getfield 44), (70, 0, .iconst 4), (71, 0, .imul), (72, 0, .iconst 1), (73, 0, .iadd), (74, 0, .iload 2), (75, 1022, .invokevirtual 468620), (78, 0, .aload 0), (79, 403, .getfield 18), (82, 0, .aload 0), (83, 412, .getfield 44), (86, 0, .iconst 4), (87, 0, .imul), (88, 0, .iconst 2), (89, 0, .iadd), (90, 0, .aload 0), (91, 400, .getfield 6), (94, 352, .getfield 8240), (97, 1022, .invokevirtual 468620), (100, 0, .aload 0), (101, 403, .getfield 18), (104, 0, .aload 0), (105, 412, .getfield 44), (108, 0, .iconst 4), (109, 0, .imul), (110, 0, .iconst 3), (111, 0, .iadd), (112, 0, .aload 0), (113, 400, .getfield 6), (116, 355, .getfield 8244), (119, 1022, .invokevirtual 468620), (122, 0, .aload 0), (123, 0, .dup), (124, 412, .getfield 44), (127, 0, .iconst 1), (128, 0, .iadd), (129, 412, .putfield 44), (132, 0, .return_)]
abbrev k_Contest_logged : Nat := 232
def cd_Contest_logged : List (Nat × Nat × Instr) := [(0, 0, .aload 0), (1, 403, .getfield 18), (4, 0, .iload 1), (5, 0, .iconst 4), (6, 0, .imul), (7, 0, .iload 2), (8, 0, .iadd), (9, 1028, .invokevirtual 468553), (12, 0, .ireturn)]
abbrev k_Contest_score : Nat := 233
def cd_Contest_score : List (Nat × Nat × Instr) := [(0, 0, .aload 0), (1, 406, .getfield 28), (4, 0, .aload 0), (5, 407, .getfield 32), (8, 0, .isub), (9, 0, .ireturn)]
abbrev k_Contest_outcome : Nat := 234
def cd_Contest_outcome : List (Nat × Nat × Instr) := [(0, 0, .iload 1), (1, 0, .ifCond .ne 14), (4, 0, .aload 0), (5, 1043, .invokevirtual 14917), (8, 0, .ifCond .le 7), (11, 0, .iconst 0), (12, 0, .goto 13), (15, 0, .aload 0), (16, 1043, .invokevirtual 14917), (19, 0, .ifCond .ge 12), (22, 0, .iconst 1), (23, 0, .goto 13), (26, 0, .iconst 2), (27, 0, .ireturn), (28, 0, .iload 1), (29, 0, .iconst 1), (30, 0, .if_icmp .ne 21), (33, 0, .aload 0), (34, 1043, .invokevirtual 14917), (37, 1047, .invokedynamic 2), (40, 0, .goto 23), (43, 0, .aload 0), (44, 412, .getfield 44), (47, 0, .ireturn)]
abbrev k_Contest_winningOrders : Nat := 235
def cd_Contest_winningOrders : List (Nat × Nat × Instr) := [(0, 0, .iconst 0), (1, 0, .istore 1), (2, 0, .iconst 1), (3, 0, .istore 2), (4, 0, .aload 0), (5, 1070, .invokevirtual 15364), (8, 0, .iconst 0), (9, 0, .istore 3), (10, 0, .nop), (10, 0, .iload 3), (11, 0, .iconst 120), (13, 0, .if_icmp .ge 30), (16, 0, .iload 2), (17, 0, .ifCond .eq 30), (20, 0, .aload 0), (21, 1078, .invokevirtual 14660), (24, 0, .iload 1), (25, 0, .aload 0), (26, 1043, .invokevirtual 14917), (29, 0, .ifCond .le 22), (32, 0, .iconst 1), (33, 0, .goto 23), (36, 0, .iconst 0), (37, 0, .iadd), (38, 0, .istore 1), (39, 0, .aload 0), (40, 1079, .invokevirtual 15493), (43, 0, .istore 2), (44, 0, .iinc 3 1), (47, 0, .goto 8), (50, 0, .iload 1), (51, 0, .ireturn)]
abbrev k_Contest_findBest : Nat := 236
def cd_Contest_findBest : List (Nat × Nat × Instr) := [(0, 0, .iconst (-6)), (2, 0, .istore 1), (3, 0, .iconst 1), (4, 0, .istore 2), (5, 0, .aload 0), (6, 1070, .invokevirtual 15364), (9, 0, .iconst 0), (10, 0, .istore 3), (11, 0, .nop), (11, 0, .iload 3), (12, 0, .iconst 120), (14, 0, .if_icmp .ge 33), (17, 0, .iload 2), (18, 0, .ifCond .eq 33), (21, 0, .aload 0), (22, 1078, .invokevirtual 14660), (25, 0, .aload 0), (26, 1043, .invokevirtual 14917), (29, 0, .iload 1), (30, 0, .if_icmp .le 28), (33, 0, .aload 0), (34, 1043, .invokevirtual 14917), (37, 0, .istore 1), (38, 0, .aload 0), (39, 410, .getfield 42), (42, 0, .aload 0), (43, 401, .getfield 10), (46, 1091, .invokevirtual 468744), (49, 0, .aload 0), (50, 1079, .invokevirtual 15493), (53, 0, .istore 2), (54, 0, .iinc 3 1), (57, 0, .goto 8), (60, 0, .return_)]
abbrev k_Contest_findBold : Nat := 237
def cd_Contest_findBold : List (Nat × Nat × Instr) := [(0, 0, .iconst (-1)), (1, 0, .istore 1), (2, 0, .iconst 1), (3, 0, .istore 2), (4, 0, .aload 0), (5, 1070, .invokevirtual 15364), (8, 0, .iconst 0), (9, 0, .istore 3), (10, 0, .nop), (10, 0, .iload 3), (11, 0, .iconst 120), (13, 0, .if_icmp .ge 43), (16, 0, .iload 2), (17, 0, .ifCond .eq 43), (20, 0, .aload 0), (21, 0, .iconst 0), (22, 0, .iconst 0), (23, 0, .iconst 1), (24, 0, .aload 0), (25, 405, .getfield 24), (28, 0, .ishl), (29, 0, .iconst 1), (30, 0, .isub), (31, 0, .iconst (-1)), (32, 0, .iconst 0), (33, 0, .iconst 0), (34, 1100, .invokevirtual 15261), (37, 0, .istore 4), (39, 0, .iload 4), (41, 0, .iload 1), (42, 0, .if_icmp .le 38), (45, 0, .iload 4), (47, 0, .istore 1), (48, 0, .aload 0), (49, 410, .getfield 42), (52, 0, .aload 0), (53, 401, .getfield 10), (56, 1091, .invokevirtual 468744), (59, 0, .aload 0), (60, 1079, .invokevirtual 15493), (63, 0, .istore 2), (64, 0, .iinc 3 1), (67, 0, .goto 8), (70, 0, .iload 1), (71, 0, .ireturn)]
abbrev k_Contest_beatenOrders : Nat := 238
def cd_Contest_beatenOrders : List (Nat × Nat × Instr) := [(0, 0, .iload 1), (1, 0, .aload 0), (2, 404, .getfield 20), (5, 0, .if_icmp .ge 7), (8, 0, .iload 6), (10, 0, .iconst 20), (12, 0, .if_icmp .le 9), (15, 0, .iconst 0), (16, 0, .ireturn), (17, 0, .iload 4), (19, 0, .iconst (-1)), (20, 0, .if_icmp .ne 23), (23, 0, .iload 3), (24, 0, .ifCond .ne 16), (27, 0, .iconst 1), (28, 0, .goto 22), (31, 0, .aload 0), (32, 0, .iload 1), (33, 0, .iload 2), (34, 0, .iload 3), (35, 0, .iload 6), (37, 1104, .invokevirtual 15317), (40, 0, .ireturn), (41, 0, .aload 0), (42, 0, .aload 0), (43, 401, .getfield 10), (46, 0, .iload 1), (47, 1028, .invokevirtual 468553), (50, 0, .iload 2), (51, 0, .iload 4), (53, 0, .iload 5), (55, 1029, .invokevirtual 14740), (58, 0, .aload 0), (59, 400, .getfield 6), (62, 355, .getfield 8244), (65, 0, .istore 7), (67, 0, .aload 0), (68, 400, .getfield 6), (71, 352, .getfield 8240), (74, 0, .iconst 1), (75, 0, .if_icmp .ne 56), (78, 0, .aload 0), (79, 0, .iload 1), (80, 0, .iconst 1), (81, 0, .iadd), (82, 0, .iconst 0), (83, 0, .iload 3), (84, 0, .iload 4), (86, 0, .iload 5), (88, 0, .iload 7), (90, 0, .iadd), (91, 0, .iload 6), (93, 0, .iconst 1), (94, 0, .iadd), (95, 1100, .invokevirtual 15261), (98, 0, .ireturn), (99, 0, .aload 0), (100, 400, .getfield 6), (103, 352, .getfield 8240), (106, 0, .iconst 2), (107, 0, .if_icmp .ne 74), (110, 0, .aload 0), (111, 0, .iload 1), (112, 0, .iload 2), (113, 0, .iload 7), (115, 0, .iadd), (116, 0, .iload 3), (117, 0, .iconst (-1)), (118, 0, .iconst 0), (119, 0, .iload 6), (121, 0, .iconst 1), (122, 0, .iadd), (123, 1100, .invokevirtual 15261), (126, 0, .ireturn), (127, 0, .aload 0), (128, 0, .iload 1), (129, 0, .iconst 1), (130, 0, .iadd), (131, 0, .iconst 0), (132, 0, .iload 3), (133, 0, .iconst (-1)), (134, 0, .iconst 0), (135, 0, .iload 6), (137, 0, .iconst 1), (138, 0, .iadd), (139, 1100, .invokevirtual 15261), (142, 0, .ireturn)]
abbrev k_Contest_beatenByComing : Nat := 239
def cd_Contest_beatenByComing : List (Nat × Nat × Instr) := [(0, 0, .iconst 0), (1, 0, .istore 5), (3, 0, .iconst 0), (4, 0, .istore 6), (6, 0, .nop), (6, 0, .iload 6), (8, 0, .aload 0), (9, 405, .getfield 24), (12, 0, .if_icmp .ge 42), (15, 0, .iload 3), (16, 0, .iload 6), (18, 0, .ishr), (19, 0, .iconst 1), (20, 0, .iand), (21, 0, .iconst 1), (22, 0, .if_icmp .ne 40), (25, 0, .iload 3), (26, 0, .iconst 1), (27, 0, .iload 6), (29, 0, .ishl), (30, 0, .iconst (-1)), (31, 0, .ixor), (32, 0, .iand), (33, 0, .istore 7), (35, 0, .iload 5), (37, 0, .aload 0), (38, 0, .iload 1), (39, 0, .iload 2), (40, 0, .iload 7), (42, 0, .aload 0), (43, 402, .getfield 14), (46, 0, .iload 6), (48, 1028, .invokevirtual 468553), (51, 0, .iconst 0), (52, 0, .iload 4), (54, 0, .iconst 1), (55, 0, .iadd), (56, 1100, .invokevirtual 15261), (59, 0, .iadd), (60, 0, .istore 5), (62, 0, .iinc 6 1), (65, 0, .goto 4), (68, 0, .iload 5), (70, 0, .ireturn)]
abbrev k_Contest_sortFirsts : Nat := 240
def cd_Contest_sortFirsts : List (Nat × Nat × Instr) := [(0, 0, .iconst 1), (1, 0, .istore 1), (2, 0, .nop), (2, 0, .iload 1), (3, 0, .aload 0), (4, 404, .getfield 20), (7, 0, .if_icmp .ge 33), (10, 0, .iload 1), (11, 0, .istore 2), (12, 0, .nop), (12, 0, .iload 2), (13, 0, .ifCond .le 31), (16, 0, .aload 0), (17, 401, .getfield 10), (20, 0, .iload 2), (21, 0, .iconst 1), (22, 0, .isub), (23, 1028, .invokevirtual 468553), (26, 0, .aload 0), (27, 401, .getfield 10), (30, 0, .iload 2), (31, 1028, .invokevirtual 468553), (34, 0, .if_icmp .le 31), (37, 0, .aload 0), (38, 0, .iload 2), (39, 0, .iconst 1), (40, 0, .isub), (41, 0, .iload 2), (42, 1074, .invokevirtual 15436), (45, 0, .iinc 2 (-1)), (48, 0, .goto 9), (51, 0, .iinc 1 1), (54, 0, .goto 2), (57, 0, .return_)]
abbrev k_Contest_exchange : Nat := 241
def cd_Contest_exchange : List (Nat × Nat × Instr) := [(0, 0, .aload 0), (1, 401, .getfield 10), (4, 0, .iload 1), (5, 1028, .invokevirtual 468553), (8, 0, .istore 3), (9, 0, .aload 0), (10, 401, .getfield 10), (13, 0, .iload 1), (14, 0, .aload 0), (15, 401, .getfield 10), (18, 0, .iload 2), (19, 1028, .invokevirtual 468553), (22, 1022, .invokevirtual 468620), (25, 0, .aload 0), (26, 401, .getfield 10), (29, 0, .iload 2), (30, 0, .iload 3), (31, 1022, .invokevirtual 468620), (34, 0, .return_)]
abbrev k_Contest_nextOrder : Nat := 242
def cd_Contest_nextOrder : List (Nat × Nat × Instr) := [(0, 0, .aload 0), (1, 404, .getfield 20), (4, 0, .iconst 2), (5, 0, .isub), (6, 0, .istore 1), (7, 0, .nop), (7, 0, .iload 1), (8, 0, .ifCond .lt 21), (11, 0, .aload 0), (12, 401, .getfield 10), (15, 0, .iload 1), (16, 1028, .invokevirtual 468553), (19, 0, .aload 0), (20, 401, .getfield 10), (23, 0, .iload 1), (24, 0, .iconst 1), (25, 0, .iadd), (26, 1028, .invokevirtual 468553), (29, 0, .if_icmp .le 21), (32, 0, .iinc 1 (-1)), (35, 0, .goto 5), (38, 0, .iload 1), (39, 0, .ifCond .ge 25), (42, 0, .iconst 0), (43, 0, .areturn), (44, 0, .aload 0), (45, 404, .getfield 20), (48, 0, .iconst 1), (49, 0, .isub), (50, 0, .istore 2), (51, 0, .nop), (51, 0, .iload 2), (52, 0, .iload 1), (53, 0, .if_icmp .le 45), (56, 0, .aload 0), (57, 401, .getfield 10), (60, 0, .iload 2), (61, 1028, .invokevirtual 468553), (64, 0, .aload 0), (65, 401, .getfield 10), (68, 0, .iload 1), (69, 1028, .invokevirtual 468553), (72, 0, .if_icmp .ge 45), (75, 0, .iinc 2 (-1)), (78, 0, .goto 30), (81, 0, .aload 0), (82, 0, .iload 1), (83, 0, .iload 2), (84, 1074, .invokevirtual 15436), (87, 0, .iload 1), (88, 0, .iconst 1), (89, 0, .iadd), (90, 0, .istore 3), (91, 0, .aload 0), (92, 404, .getfield 20), (95, 0, .iconst 1), (96, 0, .isub), (97, 0, .istore 4), (99, 0, .nop), (99, 0, .iload 3), (100, 0, .iload 4), (102, 0, .if_icmp .ge 69), (105, 0, .aload 0), (106, 0, .iload 3), (107, 0, .iload 4), (109, 1074, .invokevirtual 15436), (112, 0, .iinc 3 1), (115, 0, .iinc 4 (-1)), (118, 0, .goto 58), (121, 0, .iconst 1), (122, 0, .areturn)]
abbrev k_Draws_init : Nat := 243
def cd_Draws_init : List (Nat × Nat × Instr) := [(0, 0, .aload 0), (1, 324, .pop2), (4, 0, .aload 0), (5, 0, .ldc2_w 0), (6, 325, .putfield 4097), (9, 0, .return_)]
abbrev k_Draws_start : Nat := 244
def cd_Draws_start : List (Nat × Nat × Instr) := [(0, 0, .aload 0), (1, 0, .iload 1), (2, 0, .i2l), (3, 325, .putfield 4097), (6, 0, .return_)]
abbrev k_Draws_slip : Nat := 245
def cd_Draws_slip : List (Nat × Nat × Instr) := [(0, 0, .iconst 2), (1, 0, .iload 1), (2, 0, .imul), (3, 0, .iconst 1), (4, 0, .iadd), (5, 0, .istore 2), (6, 0, .aload 0), (7, 856, .ldc2_w 13), (10, 0, .aload 0), (11, 325, .getfield 4097), (14, 0, .lmul), (15, 857, .ldc2_w 14), (18, 0, .ladd), (19, 858, .ldc2_w 28), (22, 0, .land), (23, 325, .putfield 4097), (26, 0, .iload 2), (27, 0, .ifCond .le 29), (30, 0, .aload 0), (31, 325, .getfield 4097), (34, 859, .ldc2_w 16), (37, 0, .ldiv), (38, 0, .iload 2), (39, 0, .i2l), (40, 0, .lrem), (41, 0, .l2i), (42, 0, .iload 1), (43, 0, .isub), (44, 0, .goto 30), (47, 0, .iconst 0), (48, 0, .ireturn)]
abbrev k_Duel_init : Nat := 246
def cd_Duel_init : List (Nat × Nat × Instr) := [(0, 0, .aload 0), (1, 287, .pop2), (4, 0, .aload 0), (5, 288, .new 3), (8, 0, .dup), (9, 290, .invokespecial 208644), (12, 329, .putfield 8194), (15, 0, .aload 0), (16, 288, .new 3), (19, 0, .dup), (20, 290, .invokespecial 208644), (23, 333, .putfield 8198), (26, 0, .aload 0), (27, 317, .new 7), (30, 0, .dup), (31, 0, .iconst 3), (32, 318, .invokespecial 468488), (35, 337, .putfield 8202), (38, 0, .aload 0), (39, 319, .new 1), (42, 0, .dup), (43, 321, .invokespecial 79556), (46, 339, .putfield 8206), (49, 0, .aload 0), (50, 0, .iconst 0), (51, 340, .putfield 8211), (54, 0, .return_)]
abbrev k_Duel_place : Nat := 247
def cd_Duel_place : List (Nat × Nat × Instr) := [(0, 0, .aload 0), (1, 0, .aload 1), (2, 0, .iload 2), (3, 0, .iload 3), (4, 791, .invokevirtual 339085), (7, 345, .putfield 8228), (10, 0, .aload 0), (11, 0, .aload 1), (12, 0, .iload 2), (13, 0, .iconst 1), (14, 792, .invokevirtual 338061), (17, 341, .putfield 8212), (20, 0, .aload 0), (21, 0, .aload 1), (22, 0, .iload 3), (23, 0, .iconst 1), (24, 792, .invokevirtual 338061), (27, 342, .putfield 8216), (30, 0, .aload 0), (31, 0, .aload 1), (32, 176, .getfield 20496), (35, 343, .putfield 8220), (38, 0, .aload 0), (39, 0, .aload 1), (40, 180, .getfield 20500), (43, 344, .putfield 8224), (46, 0, .aload 0), (47, 0, .aload 1), (48, 168, .getfield 20488), (51, 348, .putfield 8232), (54, 0, .aload 0), (55, 0, .aload 1), (56, 172, .getfield 20492), (59, 350, .putfield 8236), (62, 0, .aload 0), (63, 0, .iconst 0), (64, 340, .putfield 8211), (67, 0, .return_)]
abbrev k_Duel_drawFrom : Nat := 248
def cd_Duel_drawFrom : List (Nat × Nat × Instr) := [(0, 0, .aload 0), (1, 339, .getfield 8206), (4, 0, .iload 1), (5, 1285, .invokevirtual 79624), (8, 0, .aload 0), (9, 0, .iconst 1), (10, 340, .putfield 8211), (13, 0, .return_)]
abbrev k_Duel_kindOf : Nat := 249
def cd_Duel_kindOf : List (Nat × Nat × Instr) := [(0, 0, .iload 1), (1, 0, .aload 0), (2, 343, .getfield 8220), (5, 0, .if_icmp .ge 6), (8, 0, .iconst 0), (9, 0, .ireturn), (10, 0, .iload 1), (11, 0, .aload 0), (12, 344, .getfield 8224), (15, 0, .if_icmp .le 12), (18, 0, .iconst 2), (19, 0, .goto 13), (22, 0, .iconst 1), (23, 0, .ireturn)]
abbrev k_Duel_fateOf : Nat := 250
def cd_Duel_fateOf : List (Nat × Nat × Instr) := [(0, 0, .iload 1), (1, 0, .ifCond .ne 4), (4, 0, .iconst 0), (5, 0, .ireturn), (6, 0, .iload 1), (7, 0, .iconst 2), (8, 0, .if_icmp .ne 15), (11, 0, .aload 2), (12, 300, .getfield 12304), (15, 0, .iconst 4), (16, 0, .if_icmp .ne 13), (19, 0, .iconst 1), (20, 0, .goto 14), (23, 0, .iconst 0), (24, 0, .ireturn), (25, 0, .aload 2), (26, 302, .getfield 12308), (29, 0, .iconst 2), (30, 0, .if_icmp .ne 21), (33, 0, .iconst 2), (34, 0, .ireturn), (35, 0, .aload 4), (37, 302, .getfield 12308), (40, 0, .iconst 2), (41, 0, .if_icmp .ne 27), (44, 0, .iconst 0), (45, 0, .ireturn), (46, 0, .aload 4), (48, 0, .aload 0), (49, 345, .getfield 8228), (52, 0, .iload 5), (54, 830, .invokevirtual 208845), (57, 0, .aload 2), (58, 0, .aload 0), (59, 345, .getfield 8228), (62, 0, .iload 3), (63, 0, .aload 4), (65, 302, .getfield 12308), (68, 831, .invokevirtual 208913), (71, 0, .if_icmp .le 42), (74, 0, .iconst 3), (75, 0, .goto 43), (78, 0, .iconst 0), (79, 0, .ireturn)]
abbrev k_Duel_fateOfOne : Nat := 251
def cd_Duel_fateOfOne : List (Nat × Nat × Instr) := [(0, 0, .aload 0), (1, 0, .iload 1), (2, 0, .aload 0), (3, 329, .getfield 8194), (6, 0, .iload 2), (7, 0, .aload 0), (8, 333, .getfield 8198), (11, 0, .iload 3), (12, 826, .invokevirtual 144025), (15, 0, .ireturn)]
abbrev k_Duel_resultOf : Nat := 252
def cd_Duel_resultOf : List (Nat × Nat × Instr) := [(0, 0, .aload 0), (1, 0, .iload 1), (2, 0, .aload 0), (3, 329, .getfield 8194), (6, 0, .iload 2), (7, 0, .aload 0), (8, 333, .getfield 8198), (11, 0, .iload 3), (12, 826, .invokevirtual 144025), (15, 0, .ifCond .ne 12), (18, 0, .iconst 0), (19, 0, .goto 13), (22, 0, .iconst 1), (23, 0, .istore 4), (25, 0, .aload 0), (26, 0, .iload 1), (27, 0, .aload 0), (28, 333, .getfield 8198), (31, 0, .iload 3), (32, 0, .aload 0), (33, 329, .getfield 8194), (36, 0, .iload 2), (37, 826, .invokevirtual 144025), (40, 0, .ifCond .ne 26), (43, 0, .iconst 0), (44, 0, .goto 27), (47, 0, .iconst 2), (48, 0, .istore 5), (50, 0, .iload 4), (52, 0, .iload 5), (54, 0, .iadd), (55, 0, .ireturn)]
abbrev k_Duel_runBout : Nat := 253
def cd_Duel_runBout : List (Nat × Nat × Instr) := [(0, 0, .aload 0), (1, 0, .iconst 0), (2, 353, .putfield 8240), (5, 0, .aload 0), (6, 0, .iconst 0), (7, 356, .putfield 8244), (10, 0, .aload 0), (11, 0, .iconst 0), (12, 358, .putfield 8248), (15, 0, .nop), (15, 0, .aload 0), (16, 356, .getfield 8244), (19, 0, .aload 0), (20, 350, .getfield 8236), (23, 0, .if_icmp .ge 59), (26, 0, .aload 0), (27, 353, .getfield 8240), (30, 0, .ifCond .ne 59), (33, 0, .aload 0), (34, 0, .aload 0), (35, 340, .getfield 8208), (38, 0, .ifCond .eq 25), (41, 0, .aload 0), (42, 848, .invokevirtual 144261), (45, 0, .goto 27), (48, 0, .aload 0), (49, 348, .getfield 8232), (52, 860, .invokevirtual 143945), (55, 0, .istore 3), (56, 0, .aload 0), (57, 0, .dup), (58, 358, .getfield 8248), (61, 0, .iload 3), (62, 0, .ifCond .ne 36), (65, 0, .iconst 1), (66, 0, .goto 37), (69, 0, .iconst 0), (70, 0, .iadd), (71, 358, .putfield 8248), (74, 0, .aload 0), (75, 0, .aload 0), (76, 0, .iload 3), (77, 0, .iload 1), (78, 0, .aload 0), (79, 356, .getfield 8244), (82, 0, .iadd), (83, 0, .iload 2), (84, 0, .aload 0), (85, 356, .getfield 8244), (88, 0, .iadd), (89, 861, .invokevirtual 144145), (92, 353, .putfield 8240), (95, 0, .aload 0), (96, 0, .dup), (97, 356, .getfield 8244), (100, 0, .iconst 1), (101, 0, .iadd), (102, 356, .putfield 8244), (105, 0, .goto 9), (108, 0, .return_)]
abbrev k_Duel_drawnGap : Nat := 254
def cd_Duel_drawnGap : List (Nat × Nat × Instr) := [(0, 0, .aload 0), (1, 339, .getfield 8206), (4, 0, .aload 0), (5, 341, .getfield 8212), (8, 852, .invokevirtual 79689), (11, 0, .istore 1), (12, 0, .aload 0), (13, 339, .getfield 8206), (16, 0, .aload 0), (17, 342, .getfield 8216), (20, 852, .invokevirtual 79689), (23, 0, .istore 2), (24, 0, .aload 0), (25, 348, .getfield 8232), (28, 0, .iload 1), (29, 0, .iadd), (30, 0, .iload 2), (31, 0, .isub), (32, 0, .ireturn)]
abbrev k_Duel_allPairs : Nat := 255
def cd_Duel_allPairs : List (Nat × Nat × Instr) := [(0, 0, .iconst 2), (1, 0, .aload 0), (2, 341, .getfield 8212), (5, 0, .imul), (6, 0, .iconst 1), (7, 0, .iadd), (8, 0, .iconst 2), (9, 0, .aload 0), (10, 342, .getfield 8216), (13, 0, .imul), (14, 0, .iconst 1), (15, 0, .iadd), (16, 0, .imul), (17, 0, .ireturn)]
abbrev k_Duel_countSlips : Nat := 256
def cd_Duel_countSlips : List (Nat × Nat × Instr) := [(0, 0, .aload 0), (1, 337, .getfield 8202), (4, 0, .iconst 0), (5, 874, .invokevirtual 468680), (8, 0, .aload 0), (9, 341, .getfield 8212), (12, 0, .ineg), (13, 0, .istore 2), (14, 0, .nop), (14, 0, .iload 2), (15, 0, .aload 0), (16, 341, .getfield 8212), (19, 0, .if_icmp .gt 44), (22, 0, .aload 0), (23, 342, .getfield 8216), (26, 0, .ineg), (27, 0, .istore 3), (28, 0, .nop), (28, 0, .iload 3), (29, 0, .aload 0), (30, 342, .getfield 8216), (33, 0, .if_icmp .gt 42), (36, 0, .aload 0), (37, 0, .iload 1), (38, 0, .iload 2), (39, 0, .iadd), (40, 0, .iload 3), (41, 0, .isub), (42, 860, .invokevirtual 143945), (45, 0, .istore 4), (47, 0, .aload 0), (48, 337, .getfield 8202), (51, 0, .iload 4), (53, 0, .aload 0), (54, 337, .getfield 8202), (57, 0, .iload 4), (59, 875, .invokevirtual 468553), (62, 0, .iconst 1), (63, 0, .iadd), (64, 876, .invokevirtual 468620), (67, 0, .iinc 3 1), (70, 0, .goto 17), (73, 0, .iinc 2 1), (76, 0, .goto 8), (79, 0, .return_)]
abbrev k_Duel_pairsOf : Nat := 257
def cd_Duel_pairsOf : List (Nat × Nat × Instr) := [(0, 0, .iconst 0), (1, 0, .istore 3), (2, 0, .iconst 0), (3, 0, .istore 4), (5, 0, .nop), (5, 0, .iload 4), (7, 0, .iconst 2), (8, 0, .if_icmp .gt 26), (11, 0, .iload 3), (12, 0, .aload 0), (13, 0, .iload 4), (15, 0, .iload 2), (16, 0, .iload 2), (17, 861, .invokevirtual 144145), (20, 0, .iload 1), (21, 0, .if_icmp .ne 21), (24, 0, .aload 0), (25, 337, .getfield 8202), (28, 0, .iload 4), (30, 875, .invokevirtual 468553), (33, 0, .goto 22), (36, 0, .iconst 0), (37, 0, .iadd), (38, 0, .istore 3), (39, 0, .iinc 4 1), (42, 0, .goto 4), (45, 0, .iload 3), (46, 0, .ireturn)]
abbrev k_Duel_gainBy : Nat := 258
def cd_Duel_gainBy : List (Nat × Nat × Instr) := [(0, 0, .iload 0), (1, 0, .iconst 2), (2, 0, .if_icmp .ne 5), (5, 0, .iconst 1), (6, 0, .goto 11), (9, 0, .iload 0), (10, 0, .iconst 1), (11, 0, .if_icmp .ne 10), (14, 0, .iconst (-1)), (15, 0, .goto 11), (18, 0, .iconst 0), (19, 0, .ireturn)]
abbrev k_Duel_gain : Nat := 259
def cd_Duel_gain : List (Nat × Nat × Instr) := [(0, 0, .iconst 0), (1, 0, .istore 1), (2, 0, .iconst 0), (3, 0, .istore 2), (4, 0, .nop), (4, 0, .iload 2), (5, 0, .iconst 2), (6, 0, .if_icmp .gt 24), (9, 0, .iload 1), (10, 0, .aload 0), (11, 0, .iload 2), (12, 0, .iconst 0), (13, 0, .iconst 0), (14, 861, .invokevirtual 144145), (17, 918, .invokestatic 16517), (20, 0, .aload 0), (21, 337, .getfield 8202), (24, 0, .iload 2), (25, 875, .invokevirtual 468553), (28, 0, .imul), (29, 0, .iadd), (30, 0, .istore 1), (31, 0, .iinc 2 1), (34, 0, .goto 4), (37, 0, .iload 1), (38, 0, .ireturn)]
abbrev k_Fighter_init : Nat := 260
def cd_Fighter_init : List (Nat × Nat × Instr) := [(0, 0, .aload 0), (1, 293, .pop2), (4, 0, .return_)]
abbrev k_Fighter_load : Nat := 261
def cd_Fighter_load : List (Nat × Nat × Instr) := [(0, 0, .aload 0), (1, 0, .aload 1), (2, 0, .iload 2), (3, 0, .iconst 0), (4, 797, .invokevirtual 338253), (7, 294, .putfield 12288), (10, 0, .aload 0), (11, 0, .aload 1), (12, 0, .iload 2), (13, 0, .iconst 1), (14, 797, .invokevirtual 338253), (17, 296, .putfield 12292), (20, 0, .aload 0), (21, 0, .aload 1), (22, 0, .iload 2), (23, 0, .iconst 2), (24, 797, .invokevirtual 338253), (27, 297, .putfield 12296), (30, 0, .aload 0), (31, 0, .aload 1), (32, 0, .iload 2), (33, 0, .iconst 3), (34, 797, .invokevirtual 338253), (37, 298, .putfield 12300), (40, 0, .aload 0), (41, 0, .aload 1), (42, 0, .iload 2), (43, 0, .iconst 4), (44, 797, .invokevirtual 338253), (47, 299, .putfield 12304), (50, 0, .aload 0), (51, 0, .aload 1), (52, 0, .iload 2), (53, 0, .iconst 5), (54, 797, .invokevirtual 338253), (57, 301, .putfield 12308), (60, 0, .return_)]
abbrev k_Fighter_choose : Nat := 262
def cd_Fighter_choose : List (Nat × Nat × Instr) := [(0, 0, .aload 0), (1, 0, .iload 1), (2, 0, .iconst 2), (3, 0, .idiv), (4, 299, .putfield 12304), (7, 0, .aload 0), (8, 0, .iload 1), (9, 0, .iconst 2), (10, 0, .irem), (11, 0, .ifCond .ne 12), (14, 0, .iconst 0), (15, 0, .goto 13), (18, 0, .iconst 1), (19, 301, .putfield 12308), (22, 0, .return_)]
abbrev k_Fighter_thrust : Nat := 263
def cd_Fighter_thrust : List (Nat × Nat × Instr) := [(0, 0, .aload 0), (1, 301, .getfield 12308), (4, 0, .ifCond .ne 5), (7, 0, .iconst 4), (8, 0, .goto 12), (11, 0, .aload 0), (12, 301, .getfield 12308), (15, 0, .iconst 1), (16, 0, .if_icmp .ne 11), (19, 0, .iconst 2), (20, 0, .goto 12), (23, 0, .iconst 0), (24, 0, .istore 3), (25, 0, .aload 0), (26, 297, .getfield 12296), (29, 0, .iload 1), (30, 0, .iadd), (31, 0, .aload 0), (32, 299, .getfield 12304), (35, 0, .iadd), (36, 0, .iload 3), (37, 0, .iadd), (38, 0, .aload 0), (39, 298, .getfield 12300), (42, 0, .iload 2), (43, 0, .imul), (44, 0, .isub), (45, 0, .istore 4), (47, 0, .iload 4), (49, 0, .ifCond .le 32), (52, 0, .iload 4), (54, 0, .goto 33), (57, 0, .iconst 0), (58, 0, .ireturn)]
abbrev k_Fighter_hold : Nat := 264
def cd_Fighter_hold : List (Nat × Nat × Instr) := [(0, 0, .aload 0), (1, 299, .getfield 12304), (4, 0, .iconst 2), (5, 0, .if_icmp .le 9), (8, 0, .aload 0), (9, 299, .getfield 12304), (12, 0, .iconst 2), (13, 0, .isub), (14, 0, .goto 13), (17, 0, .iconst 2), (18, 0, .aload 0), (19, 299, .getfield 12304), (22, 0, .isub), (23, 0, .istore 4), (25, 0, .aload 0), (26, 296, .getfield 12292), (29, 0, .aload 0), (30, 294, .getfield 12288), (33, 0, .iconst 10), (35, 0, .idiv), (36, 0, .iadd), (37, 0, .iload 1), (38, 0, .iconst 2), (39, 0, .idiv), (40, 0, .isub), (41, 0, .aload 0), (42, 298, .getfield 12300), (45, 0, .iload 2), (46, 0, .imul), (47, 0, .iconst 2), (48, 0, .idiv), (49, 0, .isub), (50, 0, .iconst 2), (51, 0, .iload 4), (53, 0, .imul), (54, 0, .isub), (55, 0, .iload 3), (56, 0, .iconst 1), (57, 0, .if_icmp .ne 41), (60, 0, .iconst 3), (61, 0, .goto 42), (64, 0, .iconst 0), (65, 0, .isub), (66, 0, .istore 5), (68, 0, .iload 5), (70, 0, .ifCond .le 48), (73, 0, .iload 5), (75, 0, .goto 49), (78, 0, .iconst 0), (79, 0, .ireturn)]
abbrev k_Grid_init : Nat := 265
def cd_Grid_init : List (Nat × Nat × Instr) := [(0, 0, .aload 0), (1, 444, .pop2), (4, 0, .aload 0), (5, 445, .new 7), (8, 0, .dup), (9, 0, .iconst 100), (11, 446, .invokespecial 468488), (14, 447, .putfield 16386), (17, 0, .return_)]
abbrev k_Grid_fillFrom : Nat := 266
def cd_Grid_fillFrom : List (Nat × Nat × Instr) := [(0, 0, .aload 1), (1, 0, .aload 1), (2, 347, .getfield 8232), (5, 949, .invokevirtual 144392), (8, 0, .iconst 0), (9, 0, .istore 2), (10, 0, .nop), (10, 0, .iload 2), (11, 0, .iconst 10), (13, 0, .if_icmp .ge 38), (16, 0, .aload 1), (17, 330, .getfield 8194), (20, 0, .iload 2), (21, 950, .invokevirtual 208776), (24, 0, .iconst 0), (25, 0, .istore 3), (26, 0, .nop), (26, 0, .iload 3), (27, 0, .iconst 10), (29, 0, .if_icmp .ge 36), (32, 0, .aload 1), (33, 334, .getfield 8198), (36, 0, .iload 3), (37, 950, .invokevirtual 208776), (40, 0, .aload 0), (41, 447, .getfield 16386), (44, 0, .iload 2), (45, 0, .iconst 10), (47, 0, .imul), (48, 0, .iload 3), (49, 0, .iadd), (50, 0, .aload 1), (51, 951, .invokevirtual 144581), (54, 952, .invokevirtual 468620), (57, 0, .iinc 3 1), (60, 0, .goto 16), (63, 0, .iinc 2 1), (66, 0, .goto 6), (69, 0, .return_)]
abbrev k_Grid_at : Nat := 267
def cd_Grid_at : List (Nat × Nat × Instr) := [(0, 0, .aload 0), (1, 447, .getfield 16386), (4, 0, .iload 1), (5, 0, .iconst 10), (7, 0, .imul), (8, 0, .iload 2), (9, 0, .iadd), (10, 961, .invokevirtual 468553), (13, 0, .ireturn)]
abbrev k_Grid_worstReply : Nat := 268
def cd_Grid_worstReply : List (Nat × Nat × Instr) := [(0, 0, .iconst 0), (1, 0, .istore 2), (2, 0, .iconst 1), (3, 0, .istore 3), (4, 0, .nop), (4, 0, .iload 3), (5, 0, .iconst 10), (7, 0, .if_icmp .ge 23), (10, 0, .aload 0), (11, 0, .iload 1), (12, 0, .iload 3), (13, 957, .invokevirtual 273101), (16, 0, .aload 0), (17, 0, .iload 1), (18, 0, .iload 2), (19, 957, .invokevirtual 273101), (22, 0, .if_icmp .ge 19), (25, 0, .iload 3), (26, 0, .goto 20), (29, 0, .iload 2), (30, 0, .istore 2), (31, 0, .iinc 3 1), (34, 0, .goto 4), (37, 0, .iload 2), (38, 0, .ireturn)]
abbrev k_Grid_bestChoice : Nat := 269
def cd_Grid_bestChoice : List (Nat × Nat × Instr) := [(0, 0, .iconst 0), (1, 0, .istore 2), (2, 0, .iconst 1), (3, 0, .istore 3), (4, 0, .nop), (4, 0, .iload 3), (5, 0, .iconst 10), (7, 0, .if_icmp .ge 23), (10, 0, .aload 0), (11, 0, .iload 3), (12, 0, .iload 1), (13, 957, .invokevirtual 273101), (16, 0, .aload 0), (17, 0, .iload 2), (18, 0, .iload 1), (19, 957, .invokevirtual 273101), (22, 0, .if_icmp .le 19), (25, 0, .iload 3), (26, 0, .goto 20), (29, 0, .iload 2), (30, 0, .istore 2), (31, 0, .iinc 3 1), (34, 0, .goto 4), (37, 0, .iload 2), (38, 0, .ireturn)]
abbrev k_Grid_safeChoice : Nat := 270
def cd_Grid_safeChoice : List (Nat × Nat × Instr) := [(0, 0, .iconst 0), (1, 0, .istore 1), (2, 0, .iconst 1), (3, 0, .istore 2), (4, 0, .nop), (4, 0, .iload 2), (5, 0, .iconst 10), (7, 0, .if_icmp .ge 29), (10, 0, .aload 0), (11, 0, .iload 2), (12, 0, .aload 0), (13, 0, .iload 2), (14, 970, .invokevirtual 273161), (17, 957, .invokevirtual 273101), (20, 0, .istore 3), (21, 0, .iload 3), (22, 0, .aload 0), (23, 0, .iload 1), (24, 0, .aload 0), (25, 0, .iload 1), (26, 970, .invokevirtual 273161), (29, 957, .invokevirtual 273101), (32, 0, .if_icmp .le 25), (35, 0, .iload 2), (36, 0, .goto 26), (39, 0, .iload 1), (40, 0, .istore 1), (41, 0, .iinc 2 1), (44, 0, .goto 4), (47, 0, .iload 1), (48, 0, .ireturn)]
abbrev k_Grid_safeReply : Nat := 271
def cd_Grid_safeReply : List (Nat × Nat × Instr) := [(0, 0, .iconst 0), (1, 0, .istore 1), (2, 0, .iconst 1), (3, 0, .istore 2), (4, 0, .nop), (4, 0, .iload 2), (5, 0, .iconst 10), (7, 0, .if_icmp .ge 29), (10, 0, .aload 0), (11, 0, .aload 0), (12, 0, .iload 2), (13, 976, .invokevirtual 273225), (16, 0, .iload 2), (17, 957, .invokevirtual 273101), (20, 0, .istore 3), (21, 0, .iload 3), (22, 0, .aload 0), (23, 0, .aload 0), (24, 0, .iload 1), (25, 976, .invokevirtual 273225), (28, 0, .iload 1), (29, 957, .invokevirtual 273101), (32, 0, .if_icmp .ge 25), (35, 0, .iload 2), (36, 0, .goto 26), (39, 0, .iload 1), (40, 0, .istore 1), (41, 0, .iinc 2 1), (44, 0, .goto 4), (47, 0, .iload 1), (48, 0, .ireturn)]
abbrev k_Grid_isRest : Nat := 272
def cd_Grid_isRest : List (Nat × Nat × Instr) := [(0, 0, .aload 0), (1, 0, .iload 1), (2, 0, .iload 2), (3, 957, .invokevirtual 273101), (6, 0, .aload 0), (7, 0, .aload 0), (8, 0, .iload 2), (9, 976, .invokevirtual 273225), (12, 0, .iload 2), (13, 957, .invokevirtual 273101), (16, 0, .if_icmp .ne 24), (19, 0, .aload 0), (20, 0, .iload 1), (21, 0, .iload 2), (22, 957, .invokevirtual 273101), (25, 0, .aload 0), (26, 0, .iload 1), (27, 0, .aload 0), (28, 0, .iload 1), (29, 970, .invokevirtual 273161), (32, 957, .invokevirtual 273101), (35, 0, .if_icmp .ne 24), (38, 0, .iconst 1), (39, 0, .goto 25), (42, 0, .iconst 0), (43, 0, .areturn)]
abbrev k_Grid_isVain : Nat := 273
def cd_Grid_isVain : List (Nat × Nat × Instr) := [(0, 0, .iconst 0), (1, 0, .istore 2), (2, 0, .nop), (2, 0, .iload 2), (3, 0, .iconst 10), (5, 0, .if_icmp .ge 15), (8, 0, .aload 0), (9, 0, .iload 1), (10, 0, .iload 2), (11, 1001, .invokevirtual 273549), (14, 0, .ifCond .eq 13), (17, 0, .iconst 1), (18, 0, .areturn), (19, 0, .iinc 2 1), (22, 0, .goto 2), (25, 0, .iconst 0), (26, 0, .areturn)]
abbrev k_Grid_isBeatenBy : Nat := 274
def cd_Grid_isBeatenBy : List (Nat × Nat × Instr) := [(0, 0, .iconst 0), (1, 0, .istore 3), (2, 0, .iconst 0), (3, 0, .istore 4), (5, 0, .nop), (5, 0, .iload 4), (7, 0, .iconst 10), (9, 0, .if_icmp .ge 36), (12, 0, .aload 0), (13, 0, .iload 1), (14, 0, .iload 4), (16, 957, .invokevirtual 273101), (19, 0, .aload 0), (20, 0, .iload 2), (21, 0, .iload 4), (23, 957, .invokevirtual 273101), (26, 0, .if_icmp .le 19), (29, 0, .iconst 0), (30, 0, .areturn), (31, 0, .iload 3), (32, 0, .ifCond .ne 30), (35, 0, .aload 0), (36, 0, .iload 1), (37, 0, .iload 4), (39, 957, .invokevirtual 273101), (42, 0, .aload 0), (43, 0, .iload 2), (44, 0, .iload 4), (46, 957, .invokevirtual 273101), (49, 0, .if_icmp .ge 32), (52, 0, .iconst 1), (53, 0, .goto 33), (56, 0, .iconst 0), (57, 0, .istore 3), (58, 0, .iinc 4 1), (61, 0, .goto 4), (64, 0, .iload 3), (65, 0, .areturn)]
abbrev k_Harbour_init : Nat := 275
def cd_Harbour_init : List (Nat × Nat × Instr) := [(0, 0, .aload 0), (1, 149, .pop2), (4, 0, .aload 0), (5, 150, .new 7), (8, 0, .dup), (9, 0, .iconst 8), (11, 152, .invokespecial 468488), (14, 195, .putfield 20522), (17, 0, .aload 0), (18, 150, .new 7), (21, 0, .dup), (22, 0, .iconst 60), (24, 152, .invokespecial 468488), (27, 196, .putfield 20526), (30, 0, .aload 0), (31, 150, .new 7), (34, 0, .dup), (35, 0, .iconst 28), (37, 152, .invokespecial 468488), (40, 197, .putfield 20530), (43, 0, .return_)]
abbrev k_Harbour_clear : Nat := 276
def cd_Harbour_clear : List (Nat × Nat × Instr) := [(0, 0, .aload 0), (1, 0, .iconst 0), (2, 161, .putfield 20480), (5, 0, .aload 0), (6, 0, .iconst 0), (7, 164, .putfield 20484), (10, 0, .aload 0), (11, 0, .iconst 0), (12, 167, .putfield 20488), (15, 0, .aload 0), (16, 0, .iconst 0), (17, 171, .putfield 20492), (20, 0, .aload 0), (21, 0, .iconst 0), (22, 175, .putfield 20496), (25, 0, .aload 0), (26, 0, .iconst 0), (27, 179, .putfield 20500), (30, 0, .aload 0), (31, 0, .iconst 0), (32, 183, .putfield 20504), (35, 0, .aload 0), (36, 0, .iconst 0), (37, 186, .putfield 20508), (40, 0, .aload 0), (41, 0, .iconst 0), (42, 189, .putfield 20512), (45, 0, .aload 0), (46, 0, .iconst 0), (47, 192, .putfield 20516), (50, 0, .aload 0), (51, 195, .getfield 20522), (54, 0, .iconst 0), (55, 518, .invokevirtual 468680), (58, 0, .aload 0), (59, 196, .getfield 20526), (62, 0, .iconst 0), (63, 518, .invokevirtual 468680), (66, 0, .aload 0), (67, 197, .getfield 20530), (70, 0, .iconst 0), (71, 518, .invokevirtual 468680), (74, 0, .return_)]
abbrev k_Harbour_copyFrom : Nat := 277
def cd_Harbour_copyFrom : List (Nat × Nat × Instr) := [(0, 0, .aload 0), (1, 0, .aload 1), (2, 161, .getfield 20480), (5, 161, .putfield 20480), (8, 0, .aload 0), (9, 0, .aload 1), (10, 164, .getfield 20484), (13, 164, .putfield 20484), (16, 0, .aload 0), (17, 0, .aload 1), (18, 167, .getfield 20488), (21, 167, .putfield 20488), (24, 0, .aload 0), (25, 0, .aload 1), (26, 171, .getfield 20492), (29, 171, .putfield 20492), (32, 0, .aload 0), (33, 0, .aload 1), (34, 175, .getfield 20496), (37, 175, .putfield 20496), (40, 0, .aload 0), (41, 0, .aload 1), (42, 179, .getfield 20500), (45, 179, .putfield 20500), (48, 0, .aload 0), (49, 0, .aload 1), (50, 183, .getfield 20504), (53, 183, .putfield 20504), (56, 0, .aload 0), (57, 0, .aload 1), (58, 186, .getfield 20508), (61, 186, .putfield 20508), (64, 0, .aload 0), (65, 0, .aload 1), (66, 189, .getfield 20512), (69, 189, .putfield 20512), (72, 0, .aload 0), (73, 0, .aload 1), (74, 192, .getfield 20516), (77, 192, .putfield 20516), (80, 0, .aload 0), (81, 195, .getfield 20522), (84, 0, .aload 1), (85, 195, .getfield 20522), (88, 722, .invokevirtual 468744), (91, 0, .aload 0), (92, 196, .getfield 20526), (95, 0, .aload 1), (96, 196, .getfield 20526), (99, 722, .invokevirtual 468744), (102, 0, .aload 0), (103, 197, .getfield 20530), (106, 0, .aload 1), (107, 197, .getfield 20530), (110, 722, .invokevirtual 468744), (113, 0, .return_)]
abbrev k_Harbour_hasBoat : Nat := 278
def cd_Harbour_hasBoat : List (Nat × Nat × Instr) := [(0, 0, .iload 1), (1, 0, .ifCond .lt 8), (4, 0, .iload 1), (5, 0, .aload 0), (6, 186, .getfield 20508), (9, 0, .if_icmp .ge 8), (12, 0, .iconst 1), (13, 0, .goto 9), (16, 0, .iconst 0), (17, 0, .areturn)]
abbrev k_Harbour_hasBoats : Nat := 279
def cd_Harbour_hasBoats : List (Nat × Nat × Instr) := [(0, 0, .aload 0), (1, 0, .iload 1), (2, 774, .invokevirtual 337801), (5, 0, .ifCond .eq 10), (8, 0, .aload 0), (9, 0, .iload 2), (10, 774, .invokevirtual 337801), (13, 0, .ifCond .eq 10), (16, 0, .iconst 1), (17, 0, .goto 11), (20, 0, .iconst 0), (21, 0, .areturn)]
abbrev k_Harbour_hasMan : Nat := 280
def cd_Harbour_hasMan : List (Nat × Nat × Instr) := [(0, 0, .iload 1), (1, 0, .ifCond .lt 8), (4, 0, .iload 1), (5, 0, .aload 0), (6, 189, .getfield 20512), (9, 0, .if_icmp .ge 8), (12, 0, .iconst 1), (13, 0, .goto 9), (16, 0, .iconst 0), (17, 0, .areturn)]
abbrev k_Harbour_hasTeam : Nat := 281
def cd_Harbour_hasTeam : List (Nat × Nat × Instr) := [(0, 0, .iload 1), (1, 0, .ifCond .lt 8), (4, 0, .iload 1), (5, 0, .aload 0), (6, 192, .getfield 20516), (9, 0, .if_icmp .ge 8), (12, 0, .iconst 1), (13, 0, .goto 9), (16, 0, .iconst 0), (17, 0, .areturn)]
abbrev k_Harbour_gear : Nat := 282
def cd_Harbour_gear : List (Nat × Nat × Instr) := [(0, 0, .aload 0), (1, 195, .getfield 20522), (4, 0, .iload 1), (5, 0, .iconst 2), (6, 0, .imul), (7, 0, .iload 2), (8, 0, .iadd), (9, 692, .invokevirtual 468553), (12, 0, .ireturn)]
abbrev k_Harbour_setGear : Nat := 283
def cd_Harbour_setGear : List (Nat × Nat × Instr) := [(0, 0, .aload 0), (1, 195, .getfield 20522), (4, 0, .iload 1), (5, 0, .iconst 2), (6, 0, .imul), (7, 0, .iload 2), (8, 0, .iadd), (9, 0, .iload 3), (10, 634, .invokevirtual 468620), (13, 0, .return_)]
abbrev k_Harbour_gearFits : Nat := 284
def cd_Harbour_gearFits : List (Nat × Nat × Instr) := [(0, 0, .iload 0), (1, 0, .ifCond .ne 7), (4, 0, .iload 1), (5, 0, .iconst 2), (6, 0, .iconst 12), (8, 1138, .invokestatic 4109), (11, 0, .goto 11), (14, 0, .iload 1), (15, 0, .iconst 0), (16, 0, .iconst 4), (17, 1138, .invokestatic 4109), (20, 0, .areturn)]
abbrev k_Harbour_trait : Nat := 285
def cd_Harbour_trait : List (Nat × Nat × Instr) := [(0, 0, .aload 0), (1, 196, .getfield 20526), (4, 0, .iload 1), (5, 0, .iconst 6), (7, 0, .imul), (8, 0, .iload 2), (9, 0, .iadd), (10, 692, .invokevirtual 468553), (13, 0, .ireturn)]
abbrev k_Harbour_setTrait : Nat := 286
def cd_Harbour_setTrait : List (Nat × Nat × Instr) := [(0, 0, .aload 0), (1, 196, .getfield 20526), (4, 0, .iload 1), (5, 0, .iconst 6), (7, 0, .imul), (8, 0, .iload 2), (9, 0, .iadd), (10, 0, .iload 3), (11, 634, .invokevirtual 468620), (14, 0, .return_)]
abbrev k_Harbour_leastTrait : Nat := 287
def cd_Harbour_leastTrait : List (Nat × Nat × Instr) := [(0, 0, .iload 0), (1, 0, .ifCond .ne 4), (4, 0, .iconst 40), (6, 0, .goto 5), (9, 0, .iconst 0), (10, 0, .ireturn)]
abbrev k_Harbour_mostTrait : Nat := 288
def cd_Harbour_mostTrait : List (Nat × Nat × Instr) := [(0, 0, .iload 0), (1, 0, .tableswitch 12 0 4 #[2, 4, 6, 8, 10]), (36, 0, .iconst 200), (39, 0, .ireturn), (40, 0, .iconst 30), (42, 0, .ireturn), (43, 0, .iconst 30), (45, 0, .ireturn), (46, 0, .iconst 9), (48, 0, .ireturn), (49, 0, .iconst 4), (50, 0, .ireturn), (51, 0, .iconst 2), (52, 0, .ireturn)]
abbrev k_Harbour_traitFits : Nat := 289
def cd_Harbour_traitFits : List (Nat × Nat × Instr) := [(0, 0, .iload 1), (1, 0, .iload 0), (2, 1136, .invokestatic 18373), (5, 0, .iload 0), (6, 1137, .invokestatic 18437), (9, 1138, .invokestatic 4109), (12, 0, .areturn)]
abbrev k_Harbour_menWhoAim : Nat := 290
def cd_Harbour_menWhoAim : List (Nat × Nat × Instr) := [(0, 0, .iconst 0), (1, 0, .istore 2), (2, 0, .iconst 0), (3, 0, .istore 3), (4, 0, .nop), (4, 0, .iload 3), (5, 0, .aload 0), (6, 189, .getfield 20512), (9, 0, .if_icmp .ge 23), (12, 0, .iload 2), (13, 0, .aload 0), (14, 0, .iload 3), (15, 0, .iconst 5), (16, 1164, .invokevirtual 338253), (19, 0, .iload 1), (20, 0, .if_icmp .ne 18), (23, 0, .iconst 1), (24, 0, .goto 19), (27, 0, .iconst 0), (28, 0, .iadd), (29, 0, .istore 2), (30, 0, .iinc 3 1), (33, 0, .goto 4), (36, 0, .iload 2), (37, 0, .ireturn)]
abbrev k_Harbour_boatOf : Nat := 291
def cd_Harbour_boatOf : List (Nat × Nat × Instr) := [(0, 0, .aload 0), (1, 197, .getfield 20530), (4, 0, .iload 1), (5, 0, .iconst 7), (7, 0, .imul), (8, 692, .invokevirtual 468553), (11, 0, .ireturn)]
abbrev k_Harbour_setBoatOf : Nat := 292
def cd_Harbour_setBoatOf : List (Nat × Nat × Instr) := [(0, 0, .aload 0), (1, 197, .getfield 20530), (4, 0, .iload 1), (5, 0, .iconst 7), (7, 0, .imul), (8, 0, .iload 2), (9, 634, .invokevirtual 468620), (12, 0, .return_)]
abbrev k_Harbour_sizeOf : Nat := 293
def cd_Harbour_sizeOf : List (Nat × Nat × Instr) := [(0, 0, .aload 0), (1, 197, .getfield 20530), (4, 0, .iload 1), (5, 0, .iconst 7), (7, 0, .imul), (8, 0, .iconst 1), (9, 0, .iadd), (10, 692, .invokevirtual 468553), (13, 0, .ireturn)]
abbrev k_Harbour_mate : Nat := 294
def cd_Harbour_mate : List (Nat × Nat × Instr) := [(0, 0, .aload 0), (1, 197, .getfield 20530), (4, 0, .iload 1), (5, 0, .iconst 7), (7, 0, .imul), (8, 0, .iconst 2), (9, 0, .iadd), (10, 0, .iload 2), (11, 0, .iadd), (12, 692, .invokevirtual 468553), (15, 0, .ireturn)]
abbrev k_Harbour_setMate : Nat := 295
def cd_Harbour_setMate : List (Nat × Nat × Instr) := [(0, 0, .aload 0), (1, 197, .getfield 20530), (4, 0, .iload 1), (5, 0, .iconst 7), (7, 0, .imul), (8, 0, .iconst 2), (9, 0, .iadd), (10, 0, .iload 2), (11, 0, .iadd), (12, 0, .iload 3), (13, 634, .invokevirtual 468620), (16, 0, .return_)]
abbrev k_Harbour_addMate : Nat := 296
def cd_Harbour_addMate : List (Nat × Nat × Instr) := [(0, 0, .aload 0), (1, 0, .iload 1), (2, 688, .invokevirtual 338761), (5, 0, .istore 3), (6, 0, .aload 0), (7, 0, .iload 1), (8, 0, .iload 3), (9, 0, .iload 2), (10, 709, .invokevirtual 338896), (13, 0, .aload 0), (14, 197, .getfield 20530), (17, 0, .iload 1), (18, 0, .iconst 7), (20, 0, .imul), (21, 0, .iconst 1), (22, 0, .iadd), (23, 0, .iload 3), (24, 0, .iconst 1), (25, 0, .iadd), (26, 634, .invokevirtual 468620), (29, 0, .return_)]
abbrev k_Harbour_isMate : Nat := 297
def cd_Harbour_isMate : List (Nat × Nat × Instr) := [(0, 0, .iconst 0), (1, 0, .istore 3), (2, 0, .nop), (2, 0, .iload 3), (3, 0, .aload 0), (4, 0, .iload 1), (5, 688, .invokevirtual 338761), (8, 0, .if_icmp .ge 18), (11, 0, .aload 0), (12, 0, .iload 1), (13, 0, .iload 3), (14, 696, .invokevirtual 338829), (17, 0, .iload 2), (18, 0, .if_icmp .ne 16), (21, 0, .iconst 1), (22, 0, .areturn), (23, 0, .iinc 3 1), (26, 0, .goto 2), (29, 0, .iconst 0), (30, 0, .areturn)]
abbrev k_Harbour_speedOf : Nat := 298
def cd_Harbour_speedOf : List (Nat × Nat × Instr) := [(0, 0, .aload 0), (1, 0, .iload 1), (2, 0, .aload 0), (3, 195, .getfield 20522), (6, 0, .iload 1), (7, 0, .iconst 2), (8, 0, .imul), (9, 692, .invokevirtual 468553), (12, 0, .iload 2), (13, 779, .invokevirtual 339153), (16, 0, .ireturn)]
abbrev k_Harbour_speedWith : Nat := 299
def cd_Harbour_speedWith : List (Nat × Nat × Instr) := [(0, 0, .iload 2), (1, 0, .iload 3), (2, 0, .iload 1), (3, 0, .if_icmp .ne 6), (6, 0, .iload 2), (7, 0, .goto 12), (10, 0, .aload 0), (11, 195, .getfield 20522), (14, 0, .iload 3), (15, 0, .iconst 2), (16, 0, .imul), (17, 692, .invokevirtual 468553), (20, 0, .iadd), (21, 0, .istore 4), (23, 0, .iload 4), (25, 0, .aload 0), (26, 164, .getfield 20484), (29, 0, .if_icmp .le 23), (32, 0, .iload 4), (34, 0, .aload 0), (35, 164, .getfield 20484), (38, 0, .isub), (39, 0, .goto 24), (42, 0, .iconst 0), (43, 0, .ireturn)]
abbrev k_Reader_init : Nat := 300
def cd_Reader_init : List (Nat × Nat × Instr) := [(0, 0, .aload 0), (1, 230, .pop2), (4, 0, .aload 0), (5, 0, .iconst 0), (6, 233, .putfield 24584), (9, 0, .aload 0), (10, 0, .iconst 0), (11, 234, .putfield 24588), (14, 0, .aload 0), (15, 0, .iconst 0), (16, 235, .putfield 24592), (19, 0, .aload 0), (20, 0, .iconst 0), (21, 236, .putfield 24596), (24, 0, .aload 0), (25, 0, .iconst 0), (26, 237, .putfield 24600), (29, 0, .aload 0), (30, 0, .iconst (-1)), (31, 239, .putfield 24604), (34, 0, .aload 0), (35, 0, .aload 1), (36, 231, .putfield 24578), (39, 0, .aload 0), (40, 0, .aload 2), (41, 232, .putfield 24582), (44, 0, .return_)]
abbrev k_Reader_reads : Nat := 301
def cd_Reader_reads : List (Nat × Nat × Instr) := [(0, 0, .aload 0), (1, 232, .getfield 24582), (4, 514, .invokevirtual 337668), (7, 0, .aload 0), (8, 0, .iconst 0), (9, 237, .putfield 24600), (12, 0, .aload 0), (13, 0, .iconst (-1)), (14, 239, .putfield 24604), (17, 0, .aload 0), (18, 0, .iconst 0), (19, 233, .putfield 24584), (22, 0, .aload 0), (23, 519, .invokevirtual 404228), (26, 0, .iconst 0), (27, 0, .istore 1), (28, 0, .nop), (28, 0, .iload 1), (29, 0, .iconst 1200), (32, 0, .if_icmp .ge 30), (35, 0, .aload 0), (36, 234, .getfield 24588), (39, 0, .ifCond .eq 30), (42, 0, .aload 0), (43, 237, .getfield 24600), (46, 0, .ifCond .ne 30), (49, 0, .aload 0), (50, 541, .invokevirtual 403332), (53, 0, .iinc 1 1), (56, 0, .goto 16), (59, 0, .aload 0), (60, 237, .getfield 24600), (63, 0, .ifCond .ne 35), (66, 0, .iconst 1), (67, 0, .goto 36), (70, 0, .iconst 0), (71, 0, .areturn)]
abbrev k_Reader_readLine : Nat := 302
def cd_Reader_readLine : List (Nat × Nat × Instr) := [(0, 0, .aload 0), (1, 232, .getfield 24582), (4, 162, .getfield 20480), (7, 0, .ifCond .ne 7), (10, 0, .aload 0), (11, 545, .invokevirtual 403396), (14, 0, .goto 52), (17, 0, .aload 0), (18, 618, .ldc 22), (20, 554, .invokevirtual 404169), (23, 0, .ifCond .eq 14), (26, 0, .aload 0), (27, 619, .invokevirtual 403460), (30, 0, .goto 52), (33, 0, .aload 0), (34, 624, .ldc 23), (36, 554, .invokevirtual 404169), (39, 0, .ifCond .eq 21), (42, 0, .aload 0), (43, 625, .invokevirtual 403524), (46, 0, .goto 52), (49, 0, .aload 0), (50, 639, .ldc 24), (52, 554, .invokevirtual 404169), (55, 0, .ifCond .eq 28), (58, 0, .aload 0), (59, 640, .invokevirtual 403588), (62, 0, .goto 52), (65, 0, .aload 0), (66, 671, .ldc 25), (68, 554, .invokevirtual 404169), (71, 0, .ifCond .eq 35), (74, 0, .aload 0), (75, 672, .invokevirtual 403780), (78, 0, .goto 52), (81, 0, .aload 0), (82, 713, .ldc 26), (84, 554, .invokevirtual 404169), (87, 0, .ifCond .eq 49), (90, 0, .aload 0), (91, 519, .invokevirtual 404228), (94, 0, .aload 0), (95, 232, .getfield 24582), (98, 0, .aload 0), (99, 0, .iconst 0), (100, 0, .iconst 50), (102, 611, .invokevirtual 404109), (105, 184, .putfield 20504), (108, 0, .goto 52), (111, 0, .aload 0), (112, 0, .iconst 1), (113, 606, .invokevirtual 403912), (116, 0, .aload 0), (117, 714, .invokevirtual 404036), (120, 0, .aload 0), (121, 232, .getfield 24582), (124, 0, .dup), (125, 162, .getfield 20480), (128, 0, .iconst 1), (129, 0, .iadd), (130, 162, .putfield 20480), (133, 0, .return_)]
abbrev k_Reader_readHarbour : Nat := 303
def cd_Reader_readHarbour : List (Nat × Nat × Instr) := [(0, 0, .aload 0), (1, 549, .ldc 27), (3, 550, .invokevirtual 403976), (6, 0, .aload 0), (7, 610, .ldc 28), (9, 550, .invokevirtual 403976), (12, 0, .aload 0), (13, 232, .getfield 24582), (16, 0, .aload 0), (17, 0, .iconst 0), (18, 0, .iconst 9), (20, 611, .invokevirtual 404109), (23, 165, .putfield 20484), (26, 0, .aload 0), (27, 616, .ldc 29), (29, 550, .invokevirtual 403976), (32, 0, .aload 0), (33, 232, .getfield 24582), (36, 0, .aload 0), (37, 0, .iconst 0), (38, 0, .iconst 12), (40, 611, .invokevirtual 404109), (43, 169, .putfield 20488), (46, 0, .aload 0), (47, 617, .ldc 30), (49, 550, .invokevirtual 403976), (52, 0, .aload 0), (53, 232, .getfield 24582), (56, 0, .aload 0), (57, 0, .iconst 1), (58, 0, .iconst 7), (60, 611, .invokevirtual 404109), (63, 173, .putfield 20492), (66, 0, .aload 0), (67, 232, .getfield 24582), (70, 0, .iconst 2), (71, 177, .putfield 20496), (74, 0, .aload 0), (75, 232, .getfield 24582), (78, 0, .iconst 4), (79, 181, .putfield 20500), (82, 0, .return_)]
abbrev k_Reader_readReach : Nat := 304
def cd_Reader_readReach : List (Nat × Nat × Instr) := [(0, 0, .aload 0), (1, 519, .invokevirtual 404228), (4, 0, .aload 0), (5, 232, .getfield 24582), (8, 0, .aload 0), (9, 0, .iconst 0), (10, 0, .iconst 12), (12, 611, .invokevirtual 404109), (15, 177, .putfield 20496), (18, 0, .aload 0), (19, 623, .ldc 31), (21, 550, .invokevirtual 403976), (24, 0, .aload 0), (25, 232, .getfield 24582), (28, 0, .aload 0), (29, 0, .aload 0), (30, 232, .getfield 24582), (33, 177, .getfield 20496), (36, 0, .iconst 12), (38, 611, .invokevirtual 404109), (41, 181, .putfield 20500), (44, 0, .return_)]
abbrev k_Reader_readBoat : Nat := 305
def cd_Reader_readBoat : List (Nat × Nat × Instr) := [(0, 0, .aload 0), (1, 232, .getfield 24582), (4, 187, .getfield 20508), (7, 0, .iconst 4), (8, 0, .if_icmp .ne 9), (11, 0, .aload 0), (12, 0, .iconst 3), (13, 606, .invokevirtual 403912), (16, 0, .return_), (17, 0, .aload 0), (18, 519, .invokevirtual 404228), (21, 0, .aload 0), (22, 629, .ldc 32), (24, 550, .invokevirtual 403976), (27, 0, .aload 0), (28, 232, .getfield 24582), (31, 0, .aload 0), (32, 232, .getfield 24582), (35, 187, .getfield 20508), (38, 0, .iconst 0), (39, 0, .aload 0), (40, 0, .iconst 2), (41, 0, .iconst 12), (43, 611, .invokevirtual 404109), (46, 630, .invokevirtual 338128), (49, 0, .aload 0), (50, 638, .ldc 33), (52, 550, .invokevirtual 403976), (55, 0, .aload 0), (56, 232, .getfield 24582), (59, 0, .aload 0), (60, 232, .getfield 24582), (63, 187, .getfield 20508), (66, 0, .iconst 1), (67, 0, .aload 0), (68, 0, .iconst 0), (69, 0, .iconst 4), (70, 611, .invokevirtual 404109), (73, 630, .invokevirtual 338128), (76, 0, .aload 0), (77, 232, .getfield 24582), (80, 0, .dup), (81, 187, .getfield 20508), (84, 0, .iconst 1), (85, 0, .iadd), (86, 187, .putfield 20508), (89, 0, .return_)]
abbrev k_Reader_readMan : Nat := 306
def cd_Reader_readMan : List (Nat × Nat × Instr) := [(0, 0, .aload 0), (1, 232, .getfield 24582), (4, 190, .getfield 20512), (7, 0, .iconst 10), (9, 0, .if_icmp .ne 9), (12, 0, .aload 0), (13, 0, .iconst 3), (14, 606, .invokevirtual 403912), (17, 0, .return_), (18, 0, .aload 0), (19, 519, .invokevirtual 404228), (22, 0, .aload 0), (23, 644, .ldc 34), (25, 0, .iconst 0), (26, 645, .invokevirtual 403660), (29, 0, .aload 0), (30, 659, .ldc 35), (32, 0, .iconst 1), (33, 645, .invokevirtual 403660), (36, 0, .aload 0), (37, 660, .ldc 36), (39, 0, .iconst 2), (40, 645, .invokevirtual 403660), (43, 0, .aload 0), (44, 661, .ldc 37), (46, 0, .iconst 3), (47, 645, .invokevirtual 403660), (50, 0, .aload 0), (51, 662, .ldc 38), (53, 0, .iconst 4), (54, 645, .invokevirtual 403660), (57, 0, .aload 0), (58, 663, .ldc 39), (60, 550, .invokevirtual 403976), (63, 0, .aload 0), (64, 232, .getfield 24582), (67, 0, .aload 0), (68, 232, .getfield 24582), (71, 190, .getfield 20512), (74, 0, .iconst 5), (75, 0, .aload 0), (76, 664, .invokevirtual 403717), (79, 655, .invokevirtual 338320), (82, 0, .aload 0), (83, 232, .getfield 24582), (86, 0, .dup), (87, 190, .getfield 20512), (90, 0, .iconst 1), (91, 0, .iadd), (92, 190, .putfield 20512), (95, 0, .return_)]
abbrev k_Reader_readTrait : Nat := 307
def cd_Reader_readTrait : List (Nat × Nat × Instr) := [(0, 0, .aload 0), (1, 0, .aload 1), (2, 550, .invokevirtual 403976), (5, 0, .aload 0), (6, 232, .getfield 24582), (9, 0, .aload 0), (10, 232, .getfield 24582), (13, 190, .getfield 20512), (16, 0, .iload 2), (17, 0, .aload 0), (18, 0, .iload 2), (19, 649, .invokestatic 18373), (22, 0, .iload 2), (23, 652, .invokestatic 18437), (26, 611, .invokevirtual 404109), (29, 655, .invokevirtual 338320), (32, 0, .return_)]
abbrev k_Reader_aim : Nat := 308
def cd_Reader_aim : List (Nat × Nat × Instr) := [(0, 0, .iconst 0), (1, 0, .istore 1), (2, 0, .aload 0), (3, 668, .ldc 40), (5, 554, .invokevirtual 404169), (8, 0, .ifCond .eq 9), (11, 0, .iconst 1), (12, 0, .istore 1), (13, 0, .goto 23), (16, 0, .aload 0), (17, 669, .ldc 41), (19, 554, .invokevirtual 404169), (22, 0, .ifCond .eq 16), (25, 0, .iconst 2), (26, 0, .istore 1), (27, 0, .goto 23), (30, 0, .aload 0), (31, 670, .ldc 42), (33, 554, .invokevirtual 404169), (36, 0, .ifCond .ne 23), (39, 0, .aload 0), (40, 0, .iconst 1), (41, 606, .invokevirtual 403912), (44, 0, .aload 0), (45, 519, .invokevirtual 404228), (48, 0, .iload 1), (49, 0, .ireturn)]
abbrev k_Reader_readTeam : Nat := 309
def cd_Reader_readTeam : List (Nat × Nat × Instr) := [(0, 0, .aload 0), (1, 232, .getfield 24582), (4, 193, .getfield 20516), (7, 0, .iconst 4), (8, 0, .if_icmp .ne 9), (11, 0, .aload 0), (12, 0, .iconst 3), (13, 606, .invokevirtual 403912), (16, 0, .return_), (17, 0, .aload 0), (18, 519, .invokevirtual 404228), (21, 0, .aload 0), (22, 232, .getfield 24582), (25, 0, .aload 0), (26, 232, .getfield 24582), (29, 193, .getfield 20516), (32, 0, .aload 0), (33, 0, .iconst 0), (34, 0, .aload 0), (35, 232, .getfield 24582), (38, 187, .getfield 20508), (41, 0, .iconst 1), (42, 0, .isub), (43, 611, .invokevirtual 404109), (46, 676, .invokevirtual 338700), (49, 0, .aload 0), (50, 680, .invokevirtual 403844), (53, 0, .iconst 0), (54, 0, .istore 1), (55, 0, .nop), (55, 0, .iload 1), (56, 0, .iconst 1200), (59, 0, .if_icmp .ge 44), (62, 0, .aload 0), (63, 234, .getfield 24588), (66, 0, .iconst 2), (67, 0, .if_icmp .ne 44), (70, 0, .aload 0), (71, 237, .getfield 24600), (74, 0, .ifCond .ne 44), (77, 0, .aload 0), (78, 680, .invokevirtual 403844), (81, 0, .iinc 1 1), (84, 0, .goto 29), (87, 0, .aload 0), (88, 232, .getfield 24582), (91, 0, .dup), (92, 193, .getfield 20516), (95, 0, .iconst 1), (96, 0, .iadd), (97, 193, .putfield 20516), (100, 0, .return_)]
abbrev k_Reader_readMate : Nat := 310
def cd_Reader_readMate : List (Nat × Nat × Instr) := [(0, 0, .aload 0), (1, 234, .getfield 24588), (4, 0, .iconst 2), (5, 0, .if_icmp .ne 15), (8, 0, .aload 0), (9, 232, .getfield 24582), (12, 0, .aload 0), (13, 232, .getfield 24582), (16, 193, .getfield 20516), (19, 0, .aload 0), (20, 236, .getfield 24596), (23, 684, .invokevirtual 339021), (26, 0, .ifCond .eq 15), (29, 0, .iconst 1), (30, 0, .goto 16), (33, 0, .iconst 0), (34, 0, .istore 1), (35, 0, .nop), (35, 0, .iload 1), (36, 0, .ifCond .eq 23), (39, 0, .aload 0), (40, 0, .iconst 2), (41, 606, .invokevirtual 403912), (44, 0, .nop), (44, 0, .aload 0), (45, 232, .getfield 24582), (48, 0, .aload 0), (49, 232, .getfield 24582), (52, 193, .getfield 20516), (55, 700, .invokevirtual 338761), (58, 0, .iconst 5), (59, 0, .if_icmp .ne 34), (62, 0, .iconst 1), (63, 0, .goto 35), (66, 0, .iconst 0), (67, 0, .istore 2), (68, 0, .nop), (68, 0, .iload 2), (69, 0, .ifCond .eq 52), (72, 0, .aload 0), (73, 234, .getfield 24588), (76, 0, .iconst 2), (77, 0, .if_icmp .ne 52), (80, 0, .aload 0), (81, 232, .getfield 24582), (84, 0, .aload 0), (85, 236, .getfield 24596), (88, 701, .invokevirtual 337929), (91, 0, .ifCond .eq 52), (94, 0, .aload 0), (95, 0, .iconst 3), (96, 606, .invokevirtual 403912), (99, 0, .nop), (99, 0, .aload 0), (100, 0, .iconst 0), (101, 0, .aload 0), (102, 232, .getfield 24582), (105, 190, .getfield 20512), (108, 0, .iconst 1), (109, 0, .isub), (110, 611, .invokevirtual 404109), (113, 0, .istore 3), (114, 0, .aload 0), (115, 237, .getfield 24600), (118, 0, .ifCond .ne 72), (121, 0, .aload 0), (122, 232, .getfield 24582), (125, 0, .aload 0), (126, 232, .getfield 24582), (129, 193, .getfield 20516), (132, 0, .iload 3), (133, 705, .invokevirtual 338956), (136, 0, .return_)]
abbrev k_Reader_fail : Nat := 311
def cd_Reader_fail : List (Nat × Nat × Instr) := [(0, 0, .aload 0), (1, 237, .getfield 24600), (4, 0, .ifCond .ne 10), (7, 0, .aload 0), (8, 0, .iload 1), (9, 237, .putfield 24600), (12, 0, .aload 0), (13, 0, .aload 0), (14, 235, .getfield 24592), (17, 239, .putfield 24604), (20, 0, .return_)]
abbrev k_Reader_word : Nat := 312
def cd_Reader_word : List (Nat × Nat × Instr) := [(0, 0, .aload 0), (1, 0, .aload 1), (2, 554, .invokevirtual 404169), (5, 0, .ifCond .ne 7), (8, 0, .aload 0), (9, 0, .iconst 1), (10, 606, .invokevirtual 403912), (13, 0, .aload 0), (14, 519, .invokevirtual 404228), (17, 0, .return_)]
abbrev k_Reader_sign : Nat := 313
def cd_Reader_sign : List (Nat × Nat × Instr) := [(0, 0, .aload 0), (1, 234, .getfield 24588), (4, 0, .iconst 3), (5, 0, .if_icmp .eq 7), (8, 0, .aload 0), (9, 0, .iconst 1), (10, 606, .invokevirtual 403912), (13, 0, .aload 0), (14, 519, .invokevirtual 404228), (17, 0, .return_)]
abbrev k_Reader_number : Nat := 314
def cd_Reader_number : List (Nat × Nat × Instr) := [(0, 0, .aload 0), (1, 234, .getfield 24588), (4, 0, .iconst 2), (5, 0, .if_icmp .eq 8), (8, 0, .aload 0), (9, 0, .iconst 1), (10, 606, .invokevirtual 403912), (13, 0, .goto 17), (16, 0, .aload 0), (17, 236, .getfield 24596), (20, 0, .iload 1), (21, 0, .iload 2), (22, 615, .invokestatic 4109), (25, 0, .ifCond .ne 17), (28, 0, .aload 0), (29, 0, .iconst 2), (30, 606, .invokevirtual 403912), (33, 0, .aload 0), (34, 236, .getfield 24596), (37, 0, .istore 3), (38, 0, .aload 0), (39, 519, .invokevirtual 404228), (42, 0, .aload 0), (43, 237, .getfield 24600), (46, 0, .ifCond .ne 27), (49, 0, .iload 3), (50, 0, .goto 28), (53, 0, .iconst 0), (54, 0, .ireturn)]
abbrev k_Reader_isWord : Nat := 315
def cd_Reader_isWord : List (Nat × Nat × Instr) := [(0, 0, .aload 0), (1, 234, .getfield 24588), (4, 0, .iconst 1), (5, 0, .if_icmp .ne 12), (8, 0, .aload 0), (9, 233, .getfield 24584), (12, 0, .aload 0), (13, 235, .getfield 24592), (16, 0, .isub), (17, 0, .aload 1), (18, 558, .invokedynamic 3), (21, 0, .if_icmp .eq 14), (24, 0, .iconst 0), (25, 0, .areturn), (26, 0, .iconst 0), (27, 0, .istore 2), (28, 0, .nop), (28, 0, .iload 2), (29, 0, .aload 1), (30, 558, .invokedynamic 3), (33, 0, .if_icmp .ge 36), (36, 0, .aload 0), (37, 231, .getfield 24578), (40, 0, .aload 0), (41, 235, .getfield 24592), (44, 0, .iload 2), (45, 0, .iadd), (46, 524, .invokevirtual 597833), (49, 0, .aload 1), (50, 0, .iload 2), (51, 568, .invokedynamic 4), (54, 0, .if_icmp .eq 34), (57, 0, .iconst 0), (58, 0, .areturn), (59, 0, .iinc 2 1), (62, 0, .goto 16), (65, 0, .iconst 1), (66, 0, .areturn)]
abbrev k_Reader_nextToken : Nat := 316
def cd_Reader_nextToken : List (Nat × Nat × Instr) := [(0, 0, .aload 0), (1, 237, .getfield 24600), (4, 0, .ifCond .eq 4), (7, 0, .return_), (8, 0, .nop), (8, 0, .aload 0), (9, 233, .getfield 24584), (12, 0, .aload 0), (13, 231, .getfield 24578), (16, 523, .invokevirtual 597637), (19, 0, .if_icmp .ge 25), (22, 0, .aload 0), (23, 231, .getfield 24578), (26, 0, .aload 0), (27, 233, .getfield 24584), (30, 524, .invokevirtual 597833), (33, 528, .invokestatic 20293), (36, 0, .ifCond .eq 25), (39, 0, .aload 0), (40, 0, .dup), (41, 233, .getfield 24584), (44, 0, .iconst 1), (45, 0, .iadd), (46, 233, .putfield 24584), (49, 0, .goto 4), (52, 0, .aload 0), (53, 0, .aload 0), (54, 233, .getfield 24584), (57, 235, .putfield 24592), (60, 0, .aload 0), (61, 0, .iconst 0), (62, 236, .putfield 24596), (65, 0, .aload 0), (66, 233, .getfield 24584), (69, 0, .aload 0), (70, 231, .getfield 24578), (73, 523, .invokevirtual 597637), (76, 0, .if_icmp .lt 42), (79, 0, .aload 0), (80, 0, .iconst 0), (81, 234, .putfield 24588), (84, 0, .goto 138), (87, 0, .aload 0), (88, 231, .getfield 24578), (91, 0, .aload 0), (92, 233, .getfield 24584), (95, 524, .invokevirtual 597833), (98, 531, .invokestatic 20357), (101, 0, .ifCond .eq 73), (104, 0, .aload 0), (105, 0, .iconst 1), (106, 234, .putfield 24588), (109, 0, .nop), (109, 0, .aload 0), (110, 233, .getfield 24584), (113, 0, .aload 0), (114, 231, .getfield 24578), (117, 523, .invokevirtual 597637), (120, 0, .if_icmp .ge 138), (123, 0, .aload 0), (124, 231, .getfield 24578), (127, 0, .aload 0), (128, 233, .getfield 24584), (131, 524, .invokevirtual 597833), (134, 531, .invokestatic 20357), (137, 0, .ifCond .eq 138), (140, 0, .aload 0), (141, 0, .dup), (142, 233, .getfield 24584), (145, 0, .iconst 1), (146, 0, .iadd), (147, 233, .putfield 24584), (150, 0, .goto 52), (153, 0, .aload 0), (154, 231, .getfield 24578), (157, 0, .aload 0), (158, 233, .getfield 24584), (161, 524, .invokevirtual 597833), (164, 534, .invokestatic 20421), (167, 0, .ifCond .eq 120), (170, 0, .aload 0), (171, 0, .iconst 2), (172, 234, .putfield 24588), (175, 0, .nop), (175, 0, .aload 0), (176, 233, .getfield 24584), (179, 0, .aload 0), (180, 231, .getfield 24578), (183, 523, .invokevirtual 597637), (186, 0, .if_icmp .ge 138), (189, 0, .aload 0), (190, 231, .getfield 24578), (193, 0, .aload 0), (194, 233, .getfield 24584), (197, 524, .invokevirtual 597833), (200, 534, .invokestatic 20421), (203, 0, .ifCond .eq 138), (206, 0, .aload 0), (207, 537, .iconst 100000), (209, 0, .iconst 10), (211, 0, .aload 0), (212, 236, .getfield 24596), (215, 0, .imul), (216, 0, .aload 0), (217, 231, .getfield 24578), (220, 0, .aload 0), (221, 233, .getfield 24584), (224, 524, .invokevirtual 597833), (227, 0, .iadd), (228, 0, .iconst 48), (230, 0, .isub), (231, 538, .invokedynamic 0), (234, 236, .putfield 24596), (237, 0, .aload 0), (238, 0, .dup), (239, 233, .getfield 24584), (242, 0, .iconst 1), (243, 0, .iadd), (244, 233, .putfield 24584), (247, 0, .goto 83), (250, 0, .aload 0), (251, 0, .aload 0), (252, 231, .getfield 24578), (255, 0, .aload 0), (256, 233, .getfield 24584), (259, 524, .invokevirtual 597833), (262, 0, .iconst 59), (264, 0, .if_icmp .ne 130), (267, 0, .iconst 3), (268, 0, .goto 131), (271, 0, .iconst 4), (272, 234, .putfield 24588), (275, 0, .aload 0), (276, 0, .dup), (277, 233, .getfield 24584), (280, 0, .iconst 1), (281, 0, .iadd), (282, 233, .putfield 24584), (285, 0, .return_)]
abbrev k_Reader_isBlank : Nat := 317
def cd_Reader_isBlank : List (Nat × Nat × Instr) := [(0, 0, .iload 0), (1, 0, .iconst 32), (3, 0, .if_icmp .eq 6), (6, 0, .iload 0), (7, 0, .iconst 10), (9, 0, .if_icmp .ne 8), (12, 0, .iconst 1), (13, 0, .goto 9), (16, 0, .iconst 0), (17, 0, .areturn)]
abbrev k_Reader_isLetter : Nat := 318
def cd_Reader_isLetter : List (Nat × Nat × Instr) := [(0, 0, .iload 0), (1, 0, .iconst 97), (3, 0, .if_icmp .lt 8), (6, 0, .iload 0), (7, 0, .iconst 122), (9, 0, .if_icmp .gt 8), (12, 0, .iconst 1), (13, 0, .goto 9), (16, 0, .iconst 0), (17, 0, .areturn)]
abbrev k_Reader_isDigit : Nat := 319
def cd_Reader_isDigit : List (Nat × Nat × Instr) := [(0, 0, .iload 0), (1, 0, .iconst 48), (3, 0, .if_icmp .lt 8), (6, 0, .iload 0), (7, 0, .iconst 57), (9, 0, .if_icmp .gt 8), (12, 0, .iconst 1), (13, 0, .goto 9), (16, 0, .iconst 0), (17, 0, .areturn)]
abbrev k_Row_init : Nat := 320
def cd_Row_init : List (Nat × Nat × Instr) := [(0, 0, .aload 0), (1, 155, .pop2), (4, 0, .aload 0), (5, 0, .iload 1), (6, 0, .ifCond .ge 7), (9, 0, .iconst 0), (10, 0, .goto 8), (13, 0, .iload 1), (14, 0, .newarray .int), (16, 156, .putfield 28674), (19, 0, .return_)]
abbrev k_Row_at : Nat := 321
def cd_Row_at : List (Nat × Nat × Instr) := [(0, 0, .iload 1), (1, 0, .ifCond .lt 12), (4, 0, .iload 1), (5, 0, .aload 0), (6, 156, .getfield 28674), (9, 0, .arraylength), (10, 0, .if_icmp .ge 12), (13, 0, .aload 0), (14, 156, .getfield 28674), (17, 0, .iload 1), (18, 0, .iaload), (19, 0, .goto 13), (22, 0, .iconst 0), (23, 0, .ireturn)]
abbrev k_Row_set : Nat := 322
def cd_Row_set : List (Nat × Nat × Instr) := [(0, 0, .iload 1), (1, 0, .ifCond .lt 12), (4, 0, .iload 1), (5, 0, .aload 0), (6, 156, .getfield 28674), (9, 0, .arraylength), (10, 0, .if_icmp .ge 12), (13, 0, .aload 0), (14, 156, .getfield 28674), (17, 0, .iload 1), (18, 0, .iload 2), (19, 0, .iastore), (20, 0, .return_)]
abbrev k_Row_fill : Nat := 323
def cd_Row_fill : List (Nat × Nat × Instr) := [(0, 0, .iconst 0), (1, 0, .istore 2), (2, 0, .nop), (2, 0, .iload 2), (3, 0, .aload 0), (4, 156, .getfield 28674), (7, 0, .arraylength), (8, 0, .if_icmp .ge 15), (11, 0, .aload 0), (12, 156, .getfield 28674), (15, 0, .iload 2), (16, 0, .iload 1), (17, 0, .iastore), (18, 0, .iinc 2 1), (21, 0, .goto 2), (24, 0, .return_)]
abbrev k_Row_copyFrom : Nat := 324
def cd_Row_copyFrom : List (Nat × Nat × Instr) := [(0, 0, .iconst 0), (1, 0, .istore 2), (2, 0, .nop), (2, 0, .iload 2), (3, 0, .aload 0), (4, 156, .getfield 28674), (7, 0, .arraylength), (8, 0, .if_icmp .ge 17), (11, 0, .aload 0), (12, 156, .getfield 28674), (15, 0, .iload 2), (16, 0, .aload 1), (17, 0, .iload 2), (18, 726, .invokevirtual 468553), (21, 0, .iastore), (22, 0, .iinc 2 1), (25, 0, .goto 2), (28, 0, .return_)]
abbrev k_Shelf_init : Nat := 325
def cd_Shelf_init : List (Nat × Nat × Instr) := [(0, 0, .aload 0), (1, 264, .pop2), (4, 0, .aload 0), (5, 0, .iconst 240), (8, 0, .newarray .long), (10, 271, .putfield 32770), (13, 0, .aload 0), (14, 265, .new 7), (17, 0, .dup), (18, 0, .iconst 4), (19, 266, .invokespecial 468488), (22, 272, .putfield 32774), (25, 0, .aload 0), (26, 265, .new 7), (29, 0, .dup), (30, 0, .iconst 4), (31, 266, .invokespecial 468488), (34, 273, .putfield 32778), (37, 0, .aload 0), (38, 273, .getfield 32778), (41, 0, .iconst (-1)), (42, 267, .invokevirtual 468680), (45, 0, .return_)]
abbrev k_Shelf_isSlot : Nat := 326
def cd_Shelf_isSlot : List (Nat × Nat × Instr) := [(0, 0, .iload 0), (1, 0, .ifCond .lt 7), (4, 0, .iload 0), (5, 0, .iconst 4), (6, 0, .if_icmp .ge 7), (9, 0, .iconst 1), (10, 0, .goto 8), (13, 0, .iconst 0), (14, 0, .areturn)]
abbrev k_Shelf_hasRow : Nat := 327
def cd_Shelf_hasRow : List (Nat × Nat × Instr) := [(0, 0, .iload 1), (1, 1192, .invokestatic 20869), (4, 0, .ifCond .eq 11), (7, 0, .aload 0), (8, 273, .getfield 32778), (11, 0, .iload 1), (12, 1193, .invokevirtual 468553), (15, 0, .iconst (-1)), (16, 0, .if_icmp .eq 11), (19, 0, .iconst 1), (20, 0, .goto 12), (23, 0, .iconst 0), (24, 0, .areturn)]
abbrev k_Shelf_size : Nat := 328
def cd_Shelf_size : List (Nat × Nat × Instr) := [(0, 0, .aload 0), (1, 273, .getfield 32778), (4, 0, .iload 1), (5, 1193, .invokevirtual 468553), (8, 0, .ireturn)]
abbrev k_Shelf_width : Nat := 329
def cd_Shelf_width : List (Nat × Nat × Instr) := [(0, 0, .aload 0), (1, 272, .getfield 32774), (4, 0, .iload 1), (5, 1193, .invokevirtual 468553), (8, 0, .ireturn)]
abbrev k_Shelf_rows : Nat := 330
def cd_Shelf_rows : List (Nat × Nat × Instr) := [(0, 0, .iconst 0), (1, 0, .istore 1), (2, 0, .iconst 0), (3, 0, .istore 2), (4, 0, .nop), (4, 0, .iload 2), (5, 0, .iconst 4), (6, 0, .if_icmp .ge 20), (9, 0, .iload 1), (10, 0, .aload 0), (11, 0, .iload 2), (12, 1305, .invokevirtual 532937), (15, 0, .ifCond .eq 15), (18, 0, .iconst 1), (19, 0, .goto 16), (22, 0, .iconst 0), (23, 0, .iadd), (24, 0, .istore 1), (25, 0, .iinc 2 1), (28, 0, .goto 4), (31, 0, .iload 1), (32, 0, .ireturn)]
abbrev k_Shelf_lay : Nat := 331
def cd_Shelf_lay : List (Nat × Nat × Instr) := [(0, 0, .aload 0), (1, 272, .getfield 32774), (4, 0, .iload 1), (5, 0, .iload 2), (6, 1322, .invokevirtual 468620), (9, 0, .aload 0), (10, 273, .getfield 32778), (13, 0, .iload 1), (14, 0, .iload 3), (15, 1322, .invokevirtual 468620), (18, 0, .iconst 0), (19, 0, .istore 4), (21, 0, .nop), (21, 0, .iload 4), (23, 0, .iload 3), (24, 0, .if_icmp .ge 23), (27, 0, .aload 0), (28, 0, .iload 1), (29, 0, .iload 4), (31, 0, .ldc2_w 0), (32, 1323, .invokevirtual 533392), (35, 0, .iinc 4 1), (38, 0, .goto 12), (41, 0, .return_)]
abbrev k_Shelf_isPlace : Nat := 332
def cd_Shelf_isPlace : List (Nat × Nat × Instr) := [(0, 0, .iload 0), (1, 1192, .invokestatic 20869), (4, 0, .ifCond .eq 10), (7, 0, .iload 1), (8, 0, .ifCond .lt 10), (11, 0, .iload 1), (12, 0, .iconst 60), (14, 0, .if_icmp .ge 10), (17, 0, .iconst 1), (18, 0, .goto 11), (21, 0, .iconst 0), (22, 0, .areturn)]
abbrev k_Shelf_at : Nat := 333
def cd_Shelf_at : List (Nat × Nat × Instr) := [(0, 0, .iload 1), (1, 0, .iload 2), (2, 1202, .invokestatic 21257), (5, 0, .ifCond .eq 13), (8, 0, .aload 0), (9, 271, .getfield 32770), (12, 0, .iload 1), (13, 0, .iconst 60), (15, 0, .imul), (16, 0, .iload 2), (17, 0, .iadd), (18, 0, .laload), (19, 0, .goto 14), (22, 0, .ldc2_w 0), (23, 0, .lreturn)]
abbrev k_Shelf_set : Nat := 334
def cd_Shelf_set : List (Nat × Nat × Instr) := [(0, 0, .iload 1), (1, 0, .iload 2), (2, 1202, .invokestatic 21257), (5, 0, .ifCond .eq 17), (8, 0, .aload 0), (9, 271, .getfield 32770), (12, 0, .iload 1), (13, 0, .iconst 60), (15, 0, .imul), (16, 0, .iload 2), (17, 0, .iadd), (18, 0, .aload 0), (19, 0, .iload 1), (20, 1327, .invokevirtual 533065), (23, 0, .lload 3), (24, 1331, .invokestatic 21450), (27, 0, .lastore), (28, 0, .return_)]
abbrev k_Shelf_cutTo : Nat := 335
def cd_Shelf_cutTo : List (Nat × Nat × Instr) := [(0, 0, .iload 0), (1, 0, .tableswitch 16 0 2 #[2, 7, 12]), (28, 0, .lload 1), (29, 0, .l2i), (30, 0, .i2b), (31, 0, .i2l), (32, 0, .lreturn), (33, 0, .lload 1), (34, 0, .l2i), (35, 0, .i2s), (36, 0, .i2l), (37, 0, .lreturn), (38, 0, .lload 1), (39, 0, .l2i), (40, 0, .i2l), (41, 0, .lreturn), (42, 0, .lload 1), (43, 0, .lreturn)]
abbrev k_Shelf_copyOver : Nat := 336
def cd_Shelf_copyOver : List (Nat × Nat × Instr) := [(0, 0, .iload 1), (1, 0, .iload 3), (2, 0, .if_icmp .ne 8), (5, 0, .iload 4), (7, 0, .iload 2), (8, 0, .if_icmp .le 8), (11, 0, .iconst 1), (12, 0, .goto 9), (15, 0, .iconst 0), (16, 0, .istore 6), (18, 0, .iconst 0), (19, 0, .istore 7), (21, 0, .nop), (21, 0, .iload 7), (23, 0, .iload 5), (25, 0, .if_icmp .ge 40), (28, 0, .iload 6), (30, 0, .ifCond .eq 24), (33, 0, .iload 5), (35, 0, .iconst 1), (36, 0, .isub), (37, 0, .iload 7), (39, 0, .isub), (40, 0, .goto 25), (43, 0, .iload 7), (45, 0, .istore 8), (47, 0, .aload 0), (48, 0, .iload 3), (49, 0, .iload 4), (51, 0, .iload 8), (53, 0, .iadd), (54, 0, .aload 0), (55, 0, .iload 1), (56, 0, .iload 2), (57, 0, .iload 8), (59, 0, .iadd), (60, 1348, .invokevirtual 533326), (63, 1323, .invokevirtual 533392), (66, 0, .iinc 7 1), (69, 0, .goto 12), (72, 0, .return_)]
abbrev k_Tape_init : Nat := 337
def cd_Tape_init : List (Nat × Nat × Instr) := [(0, 0, .aload 0), (1, 135, .pop2), (4, 0, .aload 0), (5, 0, .iconst 1200), (8, 0, .newarray .byte), (10, 136, .putfield 36866), (13, 0, .aload 0), (14, 0, .iconst 0), (15, 137, .putfield 36868), (18, 0, .return_)]
abbrev k_Tape_length : Nat := 338
def cd_Tape_length : List (Nat × Nat × Instr) := [(0, 0, .aload 0), (1, 137, .getfield 36868), (4, 0, .ireturn)]
abbrev k_Tape_isFull : Nat := 339
def cd_Tape_isFull : List (Nat × Nat × Instr) := [(0, 0, .aload 0), (1, 137, .getfield 36868), (4, 0, .iconst 20), (6, 0, .iadd), (7, 0, .iconst 1200), (10, 0, .if_icmp .le 8), (13, 0, .iconst 1), (14, 0, .goto 9), (17, 0, .iconst 0), (18, 0, .areturn)]
abbrev k_Tape_cut : Nat := 340
def cd_Tape_cut : List (Nat × Nat × Instr) := [(0, 0, .aload 0), (1, 0, .iload 1), (2, 137, .putfield 36868), (5, 0, .return_)]
abbrev k_Tape_at : Nat := 341
def cd_Tape_at : List (Nat × Nat × Instr) := [(0, 0, .iload 1), (1, 0, .ifCond .lt 16), (4, 0, .iload 1), (5, 0, .aload 0), (6, 137, .getfield 36868), (9, 0, .if_icmp .ge 16), (12, 0, .iload 1), (13, 0, .aload 0), (14, 136, .getfield 36866), (17, 0, .arraylength), (18, 0, .if_icmp .ge 16), (21, 0, .aload 0), (22, 136, .getfield 36866), (25, 0, .iload 1), (26, 0, .baload), (27, 0, .goto 17), (30, 0, .iconst (-1)), (31, 0, .ireturn)]
abbrev k_Tape_put : Nat := 342
def cd_Tape_put : List (Nat × Nat × Instr) := [(0, 0, .iconst 24), (2, 0, .istore 2), (3, 0, .nop), (3, 0, .iload 2), (4, 0, .ifCond .lt 31), (7, 0, .aload 0), (8, 137, .getfield 36868), (11, 0, .ifCond .lt 29), (14, 0, .aload 0), (15, 137, .getfield 36868), (18, 0, .aload 0), (19, 136, .getfield 36866), (22, 0, .arraylength), (23, 0, .if_icmp .ge 29), (26, 0, .aload 0), (27, 136, .getfield 36866), (30, 0, .aload 0), (31, 137, .getfield 36868), (34, 0, .iload 1), (35, 0, .iload 2), (36, 0, .ishr), (37, 0, .i2b), (38, 0, .bastore), (39, 0, .aload 0), (40, 0, .dup), (41, 137, .getfield 36868), (44, 0, .iconst 1), (45, 0, .iadd), (46, 137, .putfield 36868), (49, 0, .iinc 2 (-8)), (52, 0, .goto 2), (55, 0, .return_)]
abbrev k_Law_law : Nat := 343
def cd_Law_law_0 : List (Nat × Nat × Instr) := [(0, 122, .new 10), (3, 0, .dup), (4, 124, .invokespecial 640004), (7, 0, .astore 1), (8, 1349, .new 11), (11, 0, .dup), (12, 1351, .invokespecial 709188), (15, 0, .astore 2), (16, 0, .iconst 0), (17, 0, .istore 3), (18, 0, .nop), (18, 0, .iload 3), (19, 0, .aload 0), (20, 0, .arraylength), (21, 0, .iconst 8), (23, 0, .isub), (24, 0, .if_icmp .gt 2613), (27, 0, .aload 0), (28, 0, .iload 3), (29, 0, .iaload), (30, 0, .iconst 63), (32, 0, .iand), (33, 0, .tableswitch 2611 0 62 #[23, 80, 97, 104, 121, 148, 175, 202, 229, 276, 333, 400, 467, 524, 581, 628, 695, 763, 821, 868, 915, 962, 1019, 1086, 1143, 1200, 1247, 1304, 1351, 1388, 1425, 1472, 1499, 1536, 1573, 1600, 1627, 1664, 1701, 1738, 1765, 1803, 1820, 1837, 1864, 1881, 1908, 1935, 1962, 1999, 2026, 2083, 2120, 2167, 2214, 2281, 2358, 2405, 2422, 2439, 2456, 2493, 2554]), (300, 0, .aload 1), (301, 0, .aload 0), (302, 0, .iload 3), (303, 0, .iconst 1), (304, 0, .iadd), (305, 0, .iaload), (306, 0, .aload 0), (307, 0, .iload 3), (308, 0, .iconst 2), (309, 0, .iadd), (310, 0, .iaload), (311, 0, .aload 0), (312, 0, .iload 3), (313, 0, .iconst 3), (314, 0, .iadd), (315, 0, .iaload), (316, 0, .aload 0), (317, 0, .iload 3), (318, 0, .iconst 4), (319, 0, .iadd), (320, 0, .iaload), (321, 0, .aload 0), (322, 0, .iload 3), (323, 0, .iconst 5), (324, 0, .iadd), (325, 0, .iaload), (326, 479, .invokevirtual 640089), (329, 0, .aload 2), (330, 0, .aload 0), (331, 0, .iload 3), (332, 0, .iconst 1), (333, 0, .iadd), (334, 0, .iaload), (335, 0, .aload 0), (336, 0, .iload 3), (337, 0, .iconst 2), (338, 0, .iadd), (339, 0, .iaload), (340, 0, .aload 0), (341, 0, .iload 3), (342, 0, .iconst 3), (343, 0, .iadd), (344, 0, .iaload), (345, 0, .aload 0), (346, 0, .iload 3), (347, 0, .iconst 4), (348, 0, .iadd), (349, 0, .iaload), (350, 0, .aload 0), (351, 0, .iload 3), (352, 0, .iconst 5), (353, 0, .iadd), (354, 0, .iaload), (355, 1485, .invokevirtual 710169), (358, 0, .if_icmp .eq 2611), (361, 0, .iconst 0), (362, 0, .areturn), (363, 0, .aload 1), (364, 0, .aload 0), (365, 0, .iload 3), (366, 0, .iconst 1), (367, 0, .iadd), (368, 0, .iaload), (369, 495, .invokevirtual 640137), (372, 0, .aload 2), (373, 0, .aload 0), (374, 0, .iload 3), (375, 0, .iconst 1), (376, 0, .iadd), (377, 0, .iaload), (378, 1489, .invokevirtual 710217), (381, 0, .if_icmp .eq 2611), (384, 0, .iconst 0), (385, 0, .areturn), (386, 0, .aload 1), (387, 506, .invokevirtual 640197), (390, 0, .aload 2)]
def cd_Law_law_1 : List (Nat × Nat × Instr) := [(391, 1497, .invokevirtual 711237), (394, 0, .if_icmp .eq 2611), (397, 0, .iconst 0), (398, 0, .areturn), (399, 0, .aload 1), (400, 0, .aload 0), (401, 0, .iload 3), (402, 0, .iconst 1), (403, 0, .iadd), (404, 0, .iaload), (405, 727, .invokevirtual 640265), (408, 0, .aload 2), (409, 0, .aload 0), (410, 0, .iload 3), (411, 0, .iconst 1), (412, 0, .iadd), (413, 0, .iaload), (414, 1493, .invokevirtual 710857), (417, 0, .if_icmp .eq 2611), (420, 0, .iconst 0), (421, 0, .areturn), (422, 0, .aload 1), (423, 0, .aload 0), (424, 0, .iload 3), (425, 0, .iconst 1), (426, 0, .iadd), (427, 0, .iaload), (428, 0, .aload 0), (429, 0, .iload 3), (430, 0, .iconst 2), (431, 0, .iadd), (432, 0, .iaload), (433, 731, .invokevirtual 640333), (436, 0, .aload 2), (437, 0, .aload 0), (438, 0, .iload 3), (439, 0, .iconst 1), (440, 0, .iadd), (441, 0, .iaload), (442, 0, .aload 0), (443, 0, .iload 3), (444, 0, .iconst 2), (445, 0, .iadd), (446, 0, .iaload), (447, 1586, .invokevirtual 711693), (450, 0, .if_icmp .eq 2611), (453, 0, .iconst 0), (454, 0, .areturn), (455, 0, .aload 1), (456, 0, .aload 0), (457, 0, .iload 3), (458, 0, .iconst 1), (459, 0, .iadd), (460, 0, .iaload), (461, 0, .aload 0), (462, 0, .iload 3), (463, 0, .iconst 2), (464, 0, .iadd), (465, 0, .iaload), (466, 740, .invokevirtual 640397), (469, 0, .aload 2), (470, 0, .aload 0), (471, 0, .iload 3), (472, 0, .iconst 1), (473, 0, .iadd), (474, 0, .iaload), (475, 0, .aload 0), (476, 0, .iload 3), (477, 0, .iconst 2), (478, 0, .iadd), (479, 0, .iaload), (480, 1599, .invokevirtual 711757), (483, 0, .if_icmp .eq 2611), (486, 0, .iconst 0), (487, 0, .areturn), (488, 0, .aload 1), (489, 0, .aload 0), (490, 0, .iload 3), (491, 0, .iconst 1), (492, 0, .iadd), (493, 0, .iaload), (494, 0, .aload 0), (495, 0, .iload 3), (496, 0, .iconst 2), (497, 0, .iadd), (498, 0, .iaload), (499, 752, .invokevirtual 640461), (502, 0, .aload 2), (503, 0, .aload 0), (504, 0, .iload 3), (505, 0, .iconst 1), (506, 0, .iadd), (507, 0, .iaload), (508, 0, .aload 0), (509, 0, .iload 3), (510, 0, .iconst 2), (511, 0, .iadd), (512, 0, .iaload), (513, 1607, .invokevirtual 711821), (516, 0, .if_icmp .eq 2611)]
def cd_Law_law_2 : List (Nat × Nat × Instr) := [(519, 0, .iconst 0), (520, 0, .areturn), (521, 0, .aload 1), (522, 0, .aload 0), (523, 0, .iload 3), (524, 0, .iconst 1), (525, 0, .iadd), (526, 0, .iaload), (527, 0, .aload 0), (528, 0, .iload 3), (529, 0, .iconst 2), (530, 0, .iadd), (531, 0, .iaload), (532, 766, .invokevirtual 640525), (535, 0, .aload 2), (536, 0, .aload 0), (537, 0, .iload 3), (538, 0, .iconst 1), (539, 0, .iadd), (540, 0, .iaload), (541, 0, .aload 0), (542, 0, .iload 3), (543, 0, .iconst 2), (544, 0, .iadd), (545, 0, .iaload), (546, 1627, .invokevirtual 711885), (549, 0, .if_icmp .eq 2611), (552, 0, .iconst 0), (553, 0, .areturn), (554, 0, .aload 1), (555, 0, .aload 0), (556, 0, .iload 3), (557, 0, .iconst 1), (558, 0, .iadd), (559, 0, .iaload), (560, 0, .aload 0), (561, 0, .iload 3), (562, 0, .iconst 2), (563, 0, .iadd), (564, 0, .iaload), (565, 0, .aload 0), (566, 0, .iload 3), (567, 0, .iconst 3), (568, 0, .iadd), (569, 0, .iaload), (570, 0, .aload 0), (571, 0, .iload 3), (572, 0, .iconst 4), (573, 0, .iadd), (574, 0, .iaload), (575, 783, .invokevirtual 640597), (578, 0, .aload 2), (579, 0, .aload 0), (580, 0, .iload 3), (581, 0, .iconst 1), (582, 0, .iadd), (583, 0, .iaload), (584, 0, .aload 0), (585, 0, .iload 3), (586, 0, .iconst 2), (587, 0, .iadd), (588, 0, .iaload), (589, 0, .aload 0), (590, 0, .iload 3), (591, 0, .iconst 3), (592, 0, .iadd), (593, 0, .iaload), (594, 0, .aload 0), (595, 0, .iload 3), (596, 0, .iconst 4), (597, 0, .iadd), (598, 0, .iaload), (599, 1642, .invokevirtual 712021), (602, 0, .if_icmp .eq 2611), (605, 0, .iconst 0), (606, 0, .areturn), (607, 0, .aload 1), (608, 0, .aload 0), (609, 0, .iload 3), (610, 0, .iconst 1), (611, 0, .iadd), (612, 0, .iaload), (613, 0, .aload 0), (614, 0, .iload 3), (615, 0, .iconst 2), (616, 0, .iadd), (617, 0, .iaload), (618, 0, .aload 0), (619, 0, .iload 3), (620, 0, .iconst 3), (621, 0, .iadd), (622, 0, .iaload), (623, 0, .aload 0), (624, 0, .iload 3), (625, 0, .iconst 4), (626, 0, .iadd), (627, 0, .iaload), (628, 0, .aload 0), (629, 0, .iload 3), (630, 0, .iconst 5)]
def cd_Law_law_3 : List (Nat × Nat × Instr) := [(631, 0, .iadd), (632, 0, .iaload), (633, 802, .invokevirtual 640665), (636, 0, .aload 2), (637, 0, .aload 0), (638, 0, .iload 3), (639, 0, .iconst 1), (640, 0, .iadd), (641, 0, .iaload), (642, 0, .aload 0), (643, 0, .iload 3), (644, 0, .iconst 2), (645, 0, .iadd), (646, 0, .iaload), (647, 0, .aload 0), (648, 0, .iload 3), (649, 0, .iconst 3), (650, 0, .iadd), (651, 0, .iaload), (652, 0, .aload 0), (653, 0, .iload 3), (654, 0, .iconst 4), (655, 0, .iadd), (656, 0, .iaload), (657, 0, .aload 0), (658, 0, .iload 3), (659, 0, .iconst 5), (660, 0, .iadd), (661, 0, .iaload), (662, 1654, .invokevirtual 712153), (665, 0, .if_icmp .eq 2611), (668, 0, .iconst 0), (669, 0, .areturn), (670, 0, .aload 1), (671, 0, .aload 0), (672, 0, .iload 3), (673, 0, .iconst 1), (674, 0, .iadd), (675, 0, .iaload), (676, 0, .aload 0), (677, 0, .iload 3), (678, 0, .iconst 2), (679, 0, .iadd), (680, 0, .iaload), (681, 0, .aload 0), (682, 0, .iload 3), (683, 0, .iconst 3), (684, 0, .iadd), (685, 0, .iaload), (686, 0, .aload 0), (687, 0, .iload 3), (688, 0, .iconst 4), (689, 0, .iadd), (690, 0, .iaload), (691, 0, .aload 0), (692, 0, .iload 3), (693, 0, .iconst 5), (694, 0, .iadd), (695, 0, .iaload), (696, 0, .aload 0), (697, 0, .iload 3), (698, 0, .iconst 6), (700, 0, .iadd), (701, 0, .iaload), (702, 814, .invokevirtual 640733), (705, 0, .aload 2), (706, 0, .aload 0), (707, 0, .iload 3), (708, 0, .iconst 1), (709, 0, .iadd), (710, 0, .iaload), (711, 0, .aload 0), (712, 0, .iload 3), (713, 0, .iconst 2), (714, 0, .iadd), (715, 0, .iaload), (716, 0, .aload 0), (717, 0, .iload 3), (718, 0, .iconst 3), (719, 0, .iadd), (720, 0, .iaload), (721, 0, .aload 0), (722, 0, .iload 3), (723, 0, .iconst 4), (724, 0, .iadd), (725, 0, .iaload), (726, 0, .aload 0), (727, 0, .iload 3), (728, 0, .iconst 5), (729, 0, .iadd), (730, 0, .iaload), (731, 0, .aload 0), (732, 0, .iload 3), (733, 0, .iconst 6), (735, 0, .iadd), (736, 0, .iaload), (737, 1667, .invokevirtual 712221), (740, 0, .if_icmp .eq 2611), (743, 0, .iconst 0), (744, 0, .areturn)]
def cd_Law_law_4 : List (Nat × Nat × Instr) := [(745, 0, .aload 1), (746, 0, .aload 0), (747, 0, .iload 3), (748, 0, .iconst 1), (749, 0, .iadd), (750, 0, .iaload), (751, 0, .aload 0), (752, 0, .iload 3), (753, 0, .iconst 2), (754, 0, .iadd), (755, 0, .iaload), (756, 0, .aload 0), (757, 0, .iload 3), (758, 0, .iconst 3), (759, 0, .iadd), (760, 0, .iaload), (761, 0, .aload 0), (762, 0, .iload 3), (763, 0, .iconst 4), (764, 0, .iadd), (765, 0, .iaload), (766, 0, .aload 0), (767, 0, .iload 3), (768, 0, .iconst 5), (769, 0, .iadd), (770, 0, .iaload), (771, 0, .aload 0), (772, 0, .iload 3), (773, 0, .iconst 6), (775, 0, .iadd), (776, 0, .iaload), (777, 832, .invokevirtual 640797), (780, 0, .aload 2), (781, 0, .aload 0), (782, 0, .iload 3), (783, 0, .iconst 1), (784, 0, .iadd), (785, 0, .iaload), (786, 0, .aload 0), (787, 0, .iload 3), (788, 0, .iconst 2), (789, 0, .iadd), (790, 0, .iaload), (791, 0, .aload 0), (792, 0, .iload 3), (793, 0, .iconst 3), (794, 0, .iadd), (795, 0, .iaload), (796, 0, .aload 0), (797, 0, .iload 3), (798, 0, .iconst 4), (799, 0, .iadd), (800, 0, .iaload), (801, 0, .aload 0), (802, 0, .iload 3), (803, 0, .iconst 5), (804, 0, .iadd), (805, 0, .iaload), (806, 0, .aload 0), (807, 0, .iload 3), (808, 0, .iconst 6), (810, 0, .iadd), (811, 0, .iaload), (812, 1684, .invokevirtual 712285), (815, 0, .if_icmp .eq 2611), (818, 0, .iconst 0), (819, 0, .areturn), (820, 0, .aload 1), (821, 0, .aload 0), (822, 0, .iload 3), (823, 0, .iconst 1), (824, 0, .iadd), (825, 0, .iaload), (826, 0, .aload 0), (827, 0, .iload 3), (828, 0, .iconst 2), (829, 0, .iadd), (830, 0, .iaload), (831, 0, .aload 0), (832, 0, .iload 3), (833, 0, .iconst 3), (834, 0, .iadd), (835, 0, .iaload), (836, 0, .aload 0), (837, 0, .iload 3), (838, 0, .iconst 4), (839, 0, .iadd), (840, 0, .iaload), (841, 0, .aload 0), (842, 0, .iload 3), (843, 0, .iconst 5), (844, 0, .iadd), (845, 0, .iaload), (846, 840, .invokevirtual 640857), (849, 0, .aload 2), (850, 0, .aload 0), (851, 0, .iload 3), (852, 0, .iconst 1), (853, 0, .iadd), (854, 0, .iaload)]
def cd_Law_law_5 : List (Nat × Nat × Instr) := [(855, 0, .aload 0), (856, 0, .iload 3), (857, 0, .iconst 2), (858, 0, .iadd), (859, 0, .iaload), (860, 0, .aload 0), (861, 0, .iload 3), (862, 0, .iconst 3), (863, 0, .iadd), (864, 0, .iaload), (865, 0, .aload 0), (866, 0, .iload 3), (867, 0, .iconst 4), (868, 0, .iadd), (869, 0, .iaload), (870, 0, .aload 0), (871, 0, .iload 3), (872, 0, .iconst 5), (873, 0, .iadd), (874, 0, .iaload), (875, 1688, .invokevirtual 712537), (878, 0, .if_icmp .eq 2611), (881, 0, .iconst 0), (882, 0, .areturn), (883, 0, .aload 1), (884, 0, .aload 0), (885, 0, .iload 3), (886, 0, .iconst 1), (887, 0, .iadd), (888, 0, .iaload), (889, 0, .aload 0), (890, 0, .iload 3), (891, 0, .iconst 2), (892, 0, .iadd), (893, 0, .iaload), (894, 0, .aload 0), (895, 0, .iload 3), (896, 0, .iconst 3), (897, 0, .iadd), (898, 0, .iaload), (899, 0, .aload 0), (900, 0, .iload 3), (901, 0, .iconst 4), (902, 0, .iadd), (903, 0, .iaload), (904, 0, .aload 0), (905, 0, .iload 3), (906, 0, .iconst 5), (907, 0, .iadd), (908, 0, .iaload), (909, 866, .invokevirtual 640921), (912, 0, .aload 2), (913, 0, .aload 0), (914, 0, .iload 3), (915, 0, .iconst 1), (916, 0, .iadd), (917, 0, .iaload), (918, 0, .aload 0), (919, 0, .iload 3), (920, 0, .iconst 2), (921, 0, .iadd), (922, 0, .iaload), (923, 0, .aload 0), (924, 0, .iload 3), (925, 0, .iconst 3), (926, 0, .iadd), (927, 0, .iaload), (928, 0, .aload 0), (929, 0, .iload 3), (930, 0, .iconst 4), (931, 0, .iadd), (932, 0, .iaload), (933, 0, .aload 0), (934, 0, .iload 3), (935, 0, .iconst 5), (936, 0, .iadd), (937, 0, .iaload), (938, 1712, .invokevirtual 712921), (941, 0, .if_icmp .eq 2611), (944, 0, .iconst 0), (945, 0, .areturn), (946, 0, .aload 1), (947, 0, .aload 0), (948, 0, .iload 3), (949, 0, .iconst 1), (950, 0, .iadd), (951, 0, .iaload), (952, 0, .aload 0), (953, 0, .iload 3), (954, 0, .iconst 2), (955, 0, .iadd), (956, 0, .iaload), (957, 0, .aload 0), (958, 0, .iload 3), (959, 0, .iconst 3), (960, 0, .iadd), (961, 0, .iaload), (962, 0, .aload 0), (963, 0, .iload 3), (964, 0, .iconst 4)]
def cd_Law_law_6 : List (Nat × Nat × Instr) := [(965, 0, .iadd), (966, 0, .iaload), (967, 885, .invokevirtual 640981), (970, 0, .aload 2), (971, 0, .aload 0), (972, 0, .iload 3), (973, 0, .iconst 1), (974, 0, .iadd), (975, 0, .iaload), (976, 0, .aload 0), (977, 0, .iload 3), (978, 0, .iconst 2), (979, 0, .iadd), (980, 0, .iaload), (981, 0, .aload 0), (982, 0, .iload 3), (983, 0, .iconst 3), (984, 0, .iadd), (985, 0, .iaload), (986, 0, .aload 0), (987, 0, .iload 3), (988, 0, .iconst 4), (989, 0, .iadd), (990, 0, .iaload), (991, 1735, .invokevirtual 712981), (994, 0, .if_icmp .eq 2611), (997, 0, .iconst 0), (998, 0, .areturn), (999, 0, .aload 1), (1000, 0, .aload 0), (1001, 0, .iload 3), (1002, 0, .iconst 1), (1003, 0, .iadd), (1004, 0, .iaload), (1005, 0, .aload 0), (1006, 0, .iload 3), (1007, 0, .iconst 2), (1008, 0, .iadd), (1009, 0, .iaload), (1010, 0, .aload 0), (1011, 0, .iload 3), (1012, 0, .iconst 3), (1013, 0, .iadd), (1014, 0, .iaload), (1015, 0, .aload 0), (1016, 0, .iload 3), (1017, 0, .iconst 4), (1018, 0, .iadd), (1019, 0, .iaload), (1020, 0, .aload 0), (1021, 0, .iload 3), (1022, 0, .iconst 5), (1023, 0, .iadd), (1024, 0, .iaload), (1025, 0, .aload 0), (1026, 0, .iload 3), (1027, 0, .iconst 6), (1029, 0, .iadd), (1030, 0, .iaload), (1031, 889, .invokevirtual 641053), (1034, 0, .aload 2), (1035, 0, .aload 0), (1036, 0, .iload 3), (1037, 0, .iconst 1), (1038, 0, .iadd), (1039, 0, .iaload), (1040, 0, .aload 0), (1041, 0, .iload 3), (1042, 0, .iconst 2), (1043, 0, .iadd), (1044, 0, .iaload), (1045, 0, .aload 0), (1046, 0, .iload 3), (1047, 0, .iconst 3), (1048, 0, .iadd), (1049, 0, .iaload), (1050, 0, .aload 0), (1051, 0, .iload 3), (1052, 0, .iconst 4), (1053, 0, .iadd), (1054, 0, .iaload), (1055, 0, .aload 0), (1056, 0, .iload 3), (1057, 0, .iconst 5), (1058, 0, .iadd), (1059, 0, .iaload), (1060, 0, .aload 0), (1061, 0, .iload 3), (1062, 0, .iconst 6), (1064, 0, .iadd), (1065, 0, .iaload), (1066, 1740, .invokevirtual 713181), (1069, 0, .if_icmp .eq 2611), (1072, 0, .iconst 0), (1073, 0, .areturn), (1074, 0, .aload 1), (1075, 0, .aload 0), (1076, 0, .iload 3), (1077, 0, .iconst 1), (1078, 0, .iadd)]
def cd_Law_law_7 : List (Nat × Nat × Instr) := [(1079, 0, .iaload), (1080, 0, .aload 0), (1081, 0, .iload 3), (1082, 0, .iconst 2), (1083, 0, .iadd), (1084, 0, .iaload), (1085, 0, .aload 0), (1086, 0, .iload 3), (1087, 0, .iconst 3), (1088, 0, .iadd), (1089, 0, .iaload), (1090, 0, .aload 0), (1091, 0, .iload 3), (1092, 0, .iconst 4), (1093, 0, .iadd), (1094, 0, .iaload), (1095, 0, .aload 0), (1096, 0, .iload 3), (1097, 0, .iconst 5), (1098, 0, .iadd), (1099, 0, .iaload), (1100, 0, .aload 0), (1101, 0, .iload 3), (1102, 0, .iconst 6), (1104, 0, .iadd), (1105, 0, .iaload), (1106, 897, .invokevirtual 641118), (1109, 0, .aload 2), (1110, 0, .aload 0), (1111, 0, .iload 3), (1112, 0, .iconst 1), (1113, 0, .iadd), (1114, 0, .iaload), (1115, 0, .aload 0), (1116, 0, .iload 3), (1117, 0, .iconst 2), (1118, 0, .iadd), (1119, 0, .iaload), (1120, 0, .aload 0), (1121, 0, .iload 3), (1122, 0, .iconst 3), (1123, 0, .iadd), (1124, 0, .iaload), (1125, 0, .aload 0), (1126, 0, .iload 3), (1127, 0, .iconst 4), (1128, 0, .iadd), (1129, 0, .iaload), (1130, 0, .aload 0), (1131, 0, .iload 3), (1132, 0, .iconst 5), (1133, 0, .iadd), (1134, 0, .iaload), (1135, 0, .aload 0), (1136, 0, .iload 3), (1137, 0, .iconst 6), (1139, 0, .iadd), (1140, 0, .iaload), (1141, 1749, .invokevirtual 713310), (1144, 0, .lcmp), (1145, 0, .ifCond .eq 2611), (1148, 0, .iconst 0), (1149, 0, .areturn), (1150, 0, .aload 1), (1151, 0, .aload 0), (1152, 0, .iload 3), (1153, 0, .iconst 1), (1154, 0, .iadd), (1155, 0, .iaload), (1156, 0, .aload 0), (1157, 0, .iload 3), (1158, 0, .iconst 2), (1159, 0, .iadd), (1160, 0, .iaload), (1161, 0, .aload 0), (1162, 0, .iload 3), (1163, 0, .iconst 3), (1164, 0, .iadd), (1165, 0, .iaload), (1166, 0, .aload 0), (1167, 0, .iload 3), (1168, 0, .iconst 4), (1169, 0, .iadd), (1170, 0, .iaload), (1171, 0, .aload 0), (1172, 0, .iload 3), (1173, 0, .iconst 5), (1174, 0, .iadd), (1175, 0, .iaload), (1176, 902, .invokevirtual 641178), (1179, 0, .aload 2), (1180, 0, .aload 0), (1181, 0, .iload 3), (1182, 0, .iconst 1), (1183, 0, .iadd), (1184, 0, .iaload), (1185, 0, .aload 0), (1186, 0, .iload 3), (1187, 0, .iconst 2), (1188, 0, .iadd)]
def cd_Law_law_8 : List (Nat × Nat × Instr) := [(1189, 0, .iaload), (1190, 0, .aload 0), (1191, 0, .iload 3), (1192, 0, .iconst 3), (1193, 0, .iadd), (1194, 0, .iaload), (1195, 0, .aload 0), (1196, 0, .iload 3), (1197, 0, .iconst 4), (1198, 0, .iadd), (1199, 0, .iaload), (1200, 0, .aload 0), (1201, 0, .iload 3), (1202, 0, .iconst 5), (1203, 0, .iadd), (1204, 0, .iaload), (1205, 1757, .invokevirtual 713370), (1208, 0, .lcmp), (1209, 0, .ifCond .eq 2611), (1212, 0, .iconst 0), (1213, 0, .areturn), (1214, 0, .aload 1), (1215, 0, .aload 0), (1216, 0, .iload 3), (1217, 0, .iconst 1), (1218, 0, .iadd), (1219, 0, .iaload), (1220, 0, .aload 0), (1221, 0, .iload 3), (1222, 0, .iconst 2), (1223, 0, .iadd), (1224, 0, .iaload), (1225, 0, .aload 0), (1226, 0, .iload 3), (1227, 0, .iconst 3), (1228, 0, .iadd), (1229, 0, .iaload), (1230, 0, .aload 0), (1231, 0, .iload 3), (1232, 0, .iconst 4), (1233, 0, .iadd), (1234, 0, .iaload), (1235, 906, .invokevirtual 641237), (1238, 0, .aload 2), (1239, 0, .aload 0), (1240, 0, .iload 3), (1241, 0, .iconst 1), (1242, 0, .iadd), (1243, 0, .iaload), (1244, 0, .aload 0), (1245, 0, .iload 3), (1246, 0, .iconst 2), (1247, 0, .iadd), (1248, 0, .iaload), (1249, 0, .aload 0), (1250, 0, .iload 3), (1251, 0, .iconst 3), (1252, 0, .iadd), (1253, 0, .iaload), (1254, 0, .aload 0), (1255, 0, .iload 3), (1256, 0, .iconst 4), (1257, 0, .iadd), (1258, 0, .iaload), (1259, 1761, .invokevirtual 713557), (1262, 0, .if_icmp .eq 2611), (1265, 0, .iconst 0), (1266, 0, .areturn), (1267, 0, .aload 1), (1268, 0, .aload 0), (1269, 0, .iload 3), (1270, 0, .iconst 1), (1271, 0, .iadd), (1272, 0, .iaload), (1273, 0, .aload 0), (1274, 0, .iload 3), (1275, 0, .iconst 2), (1276, 0, .iadd), (1277, 0, .iaload), (1278, 0, .aload 0), (1279, 0, .iload 3), (1280, 0, .iconst 3), (1281, 0, .iadd), (1282, 0, .iaload), (1283, 0, .aload 0), (1284, 0, .iload 3), (1285, 0, .iconst 4), (1286, 0, .iadd), (1287, 0, .iaload), (1288, 921, .invokevirtual 641301), (1291, 0, .aload 2), (1292, 0, .aload 0), (1293, 0, .iload 3), (1294, 0, .iconst 1), (1295, 0, .iadd), (1296, 0, .iaload), (1297, 0, .aload 0), (1298, 0, .iload 3), (1299, 0, .iconst 2), (1300, 0, .iadd)]
def cd_Law_law_9 : List (Nat × Nat × Instr) := [(1301, 0, .iaload), (1302, 0, .aload 0), (1303, 0, .iload 3), (1304, 0, .iconst 3), (1305, 0, .iadd), (1306, 0, .iaload), (1307, 0, .aload 0), (1308, 0, .iload 3), (1309, 0, .iconst 4), (1310, 0, .iadd), (1311, 0, .iaload), (1312, 1778, .invokevirtual 713621), (1315, 0, .if_icmp .eq 2611), (1318, 0, .iconst 0), (1319, 0, .areturn), (1320, 0, .aload 1), (1321, 0, .aload 0), (1322, 0, .iload 3), (1323, 0, .iconst 1), (1324, 0, .iadd), (1325, 0, .iaload), (1326, 0, .aload 0), (1327, 0, .iload 3), (1328, 0, .iconst 2), (1329, 0, .iadd), (1330, 0, .iaload), (1331, 0, .aload 0), (1332, 0, .iload 3), (1333, 0, .iconst 3), (1334, 0, .iadd), (1335, 0, .iaload), (1336, 0, .aload 0), (1337, 0, .iload 3), (1338, 0, .iconst 4), (1339, 0, .iadd), (1340, 0, .iaload), (1341, 926, .invokevirtual 641365), (1344, 0, .aload 2), (1345, 0, .aload 0), (1346, 0, .iload 3), (1347, 0, .iconst 1), (1348, 0, .iadd), (1349, 0, .iaload), (1350, 0, .aload 0), (1351, 0, .iload 3), (1352, 0, .iconst 2), (1353, 0, .iadd), (1354, 0, .iaload), (1355, 0, .aload 0), (1356, 0, .iload 3), (1357, 0, .iconst 3), (1358, 0, .iadd), (1359, 0, .iaload), (1360, 0, .aload 0), (1361, 0, .iload 3), (1362, 0, .iconst 4), (1363, 0, .iadd), (1364, 0, .iaload), (1365, 1782, .invokevirtual 713685), (1368, 0, .if_icmp .eq 2611), (1371, 0, .iconst 0), (1372, 0, .areturn), (1373, 0, .aload 1), (1374, 0, .aload 0), (1375, 0, .iload 3), (1376, 0, .iconst 1), (1377, 0, .iadd), (1378, 0, .iaload), (1379, 0, .aload 0), (1380, 0, .iload 3), (1381, 0, .iconst 2), (1382, 0, .iadd), (1383, 0, .iaload), (1384, 0, .aload 0), (1385, 0, .iload 3), (1386, 0, .iconst 3), (1387, 0, .iadd), (1388, 0, .iaload), (1389, 0, .aload 0), (1390, 0, .iload 3), (1391, 0, .iconst 4), (1392, 0, .iadd), (1393, 0, .iaload), (1394, 0, .aload 0), (1395, 0, .iload 3), (1396, 0, .iconst 5), (1397, 0, .iadd), (1398, 0, .iaload), (1399, 930, .invokevirtual 641433), (1402, 0, .aload 2), (1403, 0, .aload 0), (1404, 0, .iload 3), (1405, 0, .iconst 1), (1406, 0, .iadd), (1407, 0, .iaload), (1408, 0, .aload 0), (1409, 0, .iload 3), (1410, 0, .iconst 2), (1411, 0, .iadd), (1412, 0, .iaload)]
def cd_Law_law_10 : List (Nat × Nat × Instr) := [(1413, 0, .aload 0), (1414, 0, .iload 3), (1415, 0, .iconst 3), (1416, 0, .iadd), (1417, 0, .iaload), (1418, 0, .aload 0), (1419, 0, .iload 3), (1420, 0, .iconst 4), (1421, 0, .iadd), (1422, 0, .iaload), (1423, 0, .aload 0), (1424, 0, .iload 3), (1425, 0, .iconst 5), (1426, 0, .iadd), (1427, 0, .iaload), (1428, 1786, .invokevirtual 713753), (1431, 0, .if_icmp .eq 2611), (1434, 0, .iconst 0), (1435, 0, .areturn), (1436, 0, .aload 1), (1437, 0, .aload 0), (1438, 0, .iload 3), (1439, 0, .iconst 1), (1440, 0, .iadd), (1441, 0, .iaload), (1442, 0, .aload 0), (1443, 0, .iload 3), (1444, 0, .iconst 2), (1445, 0, .iadd), (1446, 0, .iaload), (1447, 0, .aload 0), (1448, 0, .iload 3), (1449, 0, .iconst 3), (1450, 0, .iadd), (1451, 0, .iaload), (1452, 0, .aload 0), (1453, 0, .iload 3), (1454, 0, .iconst 4), (1455, 0, .iadd), (1456, 0, .iaload), (1457, 0, .aload 0), (1458, 0, .iload 3), (1459, 0, .iconst 5), (1460, 0, .iadd), (1461, 0, .iaload), (1462, 0, .aload 0), (1463, 0, .iload 3), (1464, 0, .iconst 6), (1466, 0, .iadd), (1467, 0, .iaload), (1468, 934, .invokevirtual 641501), (1471, 0, .aload 2), (1472, 0, .aload 0), (1473, 0, .iload 3), (1474, 0, .iconst 1), (1475, 0, .iadd), (1476, 0, .iaload), (1477, 0, .aload 0), (1478, 0, .iload 3), (1479, 0, .iconst 2), (1480, 0, .iadd), (1481, 0, .iaload), (1482, 0, .aload 0), (1483, 0, .iload 3), (1484, 0, .iconst 3), (1485, 0, .iadd), (1486, 0, .iaload), (1487, 0, .aload 0), (1488, 0, .iload 3), (1489, 0, .iconst 4), (1490, 0, .iadd), (1491, 0, .iaload), (1492, 0, .aload 0), (1493, 0, .iload 3), (1494, 0, .iconst 5), (1495, 0, .iadd), (1496, 0, .iaload), (1497, 0, .aload 0), (1498, 0, .iload 3), (1499, 0, .iconst 6), (1501, 0, .iadd), (1502, 0, .iaload), (1503, 1790, .invokevirtual 713949), (1506, 0, .if_icmp .eq 2611), (1509, 0, .iconst 0), (1510, 0, .areturn), (1511, 0, .aload 1), (1512, 0, .aload 0), (1513, 0, .iload 3), (1514, 0, .iconst 1), (1515, 0, .iadd), (1516, 0, .iaload), (1517, 0, .aload 0), (1518, 0, .iload 3), (1519, 0, .iconst 2), (1520, 0, .iadd), (1521, 0, .iaload), (1522, 0, .aload 0), (1523, 0, .iload 3), (1524, 0, .iconst 3)]
def cd_Law_law_11 : List (Nat × Nat × Instr) := [(1525, 0, .iadd), (1526, 0, .iaload), (1527, 0, .aload 0), (1528, 0, .iload 3), (1529, 0, .iconst 4), (1530, 0, .iadd), (1531, 0, .iaload), (1532, 0, .aload 0), (1533, 0, .iload 3), (1534, 0, .iconst 5), (1535, 0, .iadd), (1536, 0, .iaload), (1537, 941, .invokevirtual 641561), (1540, 0, .aload 2), (1541, 0, .aload 0), (1542, 0, .iload 3), (1543, 0, .iconst 1), (1544, 0, .iadd), (1545, 0, .iaload), (1546, 0, .aload 0), (1547, 0, .iload 3), (1548, 0, .iconst 2), (1549, 0, .iadd), (1550, 0, .iaload), (1551, 0, .aload 0), (1552, 0, .iload 3), (1553, 0, .iconst 3), (1554, 0, .iadd), (1555, 0, .iaload), (1556, 0, .aload 0), (1557, 0, .iload 3), (1558, 0, .iconst 4), (1559, 0, .iadd), (1560, 0, .iaload), (1561, 0, .aload 0), (1562, 0, .iload 3), (1563, 0, .iconst 5), (1564, 0, .iadd), (1565, 0, .iaload), (1566, 1806, .invokevirtual 714137), (1569, 0, .if_icmp .eq 2611), (1572, 0, .iconst 0), (1573, 0, .areturn), (1574, 0, .aload 1), (1575, 0, .aload 0), (1576, 0, .iload 3), (1577, 0, .iconst 1), (1578, 0, .iadd), (1579, 0, .iaload), (1580, 0, .aload 0), (1581, 0, .iload 3), (1582, 0, .iconst 2), (1583, 0, .iadd), (1584, 0, .iaload), (1585, 0, .aload 0), (1586, 0, .iload 3), (1587, 0, .iconst 3), (1588, 0, .iadd), (1589, 0, .iaload), (1590, 0, .aload 0), (1591, 0, .iload 3), (1592, 0, .iconst 4), (1593, 0, .iadd), (1594, 0, .iaload), (1595, 0, .aload 0), (1596, 0, .iload 3), (1597, 0, .iconst 5), (1598, 0, .iadd), (1599, 0, .iaload), (1600, 962, .invokevirtual 641625), (1603, 0, .aload 2), (1604, 0, .aload 0), (1605, 0, .iload 3), (1606, 0, .iconst 1), (1607, 0, .iadd), (1608, 0, .iaload), (1609, 0, .aload 0), (1610, 0, .iload 3), (1611, 0, .iconst 2), (1612, 0, .iadd), (1613, 0, .iaload), (1614, 0, .aload 0), (1615, 0, .iload 3), (1616, 0, .iconst 3), (1617, 0, .iadd), (1618, 0, .iaload), (1619, 0, .aload 0), (1620, 0, .iload 3), (1621, 0, .iconst 4), (1622, 0, .iadd), (1623, 0, .iaload), (1624, 0, .aload 0), (1625, 0, .iload 3), (1626, 0, .iconst 5), (1627, 0, .iadd), (1628, 0, .iaload), (1629, 1814, .invokevirtual 714201), (1632, 0, .if_icmp .eq 2611), (1635, 0, .iconst 0), (1636, 0, .areturn)]
def cd_Law_law_12 : List (Nat × Nat × Instr) := [(1637, 0, .aload 1), (1638, 0, .aload 0), (1639, 0, .iload 3), (1640, 0, .iconst 1), (1641, 0, .iadd), (1642, 0, .iaload), (1643, 0, .aload 0), (1644, 0, .iload 3), (1645, 0, .iconst 2), (1646, 0, .iadd), (1647, 0, .iaload), (1648, 0, .aload 0), (1649, 0, .iload 3), (1650, 0, .iconst 3), (1651, 0, .iadd), (1652, 0, .iaload), (1653, 0, .aload 0), (1654, 0, .iload 3), (1655, 0, .iconst 4), (1656, 0, .iadd), (1657, 0, .iaload), (1658, 981, .invokevirtual 641685), (1661, 0, .aload 2), (1662, 0, .aload 0), (1663, 0, .iload 3), (1664, 0, .iconst 1), (1665, 0, .iadd), (1666, 0, .iaload), (1667, 0, .aload 0), (1668, 0, .iload 3), (1669, 0, .iconst 2), (1670, 0, .iadd), (1671, 0, .iaload), (1672, 0, .aload 0), (1673, 0, .iload 3), (1674, 0, .iconst 3), (1675, 0, .iadd), (1676, 0, .iaload), (1677, 0, .aload 0), (1678, 0, .iload 3), (1679, 0, .iconst 4), (1680, 0, .iadd), (1681, 0, .iaload), (1682, 1822, .invokevirtual 714325), (1685, 0, .if_icmp .eq 2611), (1688, 0, .iconst 0), (1689, 0, .areturn), (1690, 0, .aload 1), (1691, 0, .aload 0), (1692, 0, .iload 3), (1693, 0, .iconst 1), (1694, 0, .iadd), (1695, 0, .iaload), (1696, 0, .aload 0), (1697, 0, .iload 3), (1698, 0, .iconst 2), (1699, 0, .iadd), (1700, 0, .iaload), (1701, 0, .aload 0), (1702, 0, .iload 3), (1703, 0, .iconst 3), (1704, 0, .iadd), (1705, 0, .iaload), (1706, 0, .aload 0), (1707, 0, .iload 3), (1708, 0, .iconst 4), (1709, 0, .iadd), (1710, 0, .iaload), (1711, 0, .aload 0), (1712, 0, .iload 3), (1713, 0, .iconst 5), (1714, 0, .iadd), (1715, 0, .iaload), (1716, 989, .invokevirtual 641753), (1719, 0, .aload 2), (1720, 0, .aload 0), (1721, 0, .iload 3), (1722, 0, .iconst 1), (1723, 0, .iadd), (1724, 0, .iaload), (1725, 0, .aload 0), (1726, 0, .iload 3), (1727, 0, .iconst 2), (1728, 0, .iadd), (1729, 0, .iaload), (1730, 0, .aload 0), (1731, 0, .iload 3), (1732, 0, .iconst 3), (1733, 0, .iadd), (1734, 0, .iaload), (1735, 0, .aload 0), (1736, 0, .iload 3), (1737, 0, .iconst 4), (1738, 0, .iadd), (1739, 0, .iaload), (1740, 0, .aload 0), (1741, 0, .iload 3), (1742, 0, .iconst 5), (1743, 0, .iadd), (1744, 0, .iaload)]
def cd_Law_law_13 : List (Nat × Nat × Instr) := [(1745, 1830, .invokevirtual 714393), (1748, 0, .if_icmp .eq 2611), (1751, 0, .iconst 0), (1752, 0, .areturn), (1753, 0, .aload 1), (1754, 0, .aload 0), (1755, 0, .iload 3), (1756, 0, .iconst 1), (1757, 0, .iadd), (1758, 0, .iaload), (1759, 0, .aload 0), (1760, 0, .iload 3), (1761, 0, .iconst 2), (1762, 0, .iadd), (1763, 0, .iaload), (1764, 0, .aload 0), (1765, 0, .iload 3), (1766, 0, .iconst 3), (1767, 0, .iadd), (1768, 0, .iaload), (1769, 0, .aload 0), (1770, 0, .iload 3), (1771, 0, .iconst 4), (1772, 0, .iadd), (1773, 0, .iaload), (1774, 993, .invokevirtual 641813), (1777, 0, .aload 2), (1778, 0, .aload 0), (1779, 0, .iload 3), (1780, 0, .iconst 1), (1781, 0, .iadd), (1782, 0, .iaload), (1783, 0, .aload 0), (1784, 0, .iload 3), (1785, 0, .iconst 2), (1786, 0, .iadd), (1787, 0, .iaload), (1788, 0, .aload 0), (1789, 0, .iload 3), (1790, 0, .iconst 3), (1791, 0, .iadd), (1792, 0, .iaload), (1793, 0, .aload 0), (1794, 0, .iload 3), (1795, 0, .iconst 4), (1796, 0, .iadd), (1797, 0, .iaload), (1798, 1834, .invokevirtual 714517), (1801, 0, .if_icmp .eq 2611), (1804, 0, .iconst 0), (1805, 0, .areturn), (1806, 0, .aload 1), (1807, 0, .aload 0), (1808, 0, .iload 3), (1809, 0, .iconst 1), (1810, 0, .iadd), (1811, 0, .iaload), (1812, 0, .aload 0), (1813, 0, .iload 3), (1814, 0, .iconst 2), (1815, 0, .iadd), (1816, 0, .iaload), (1817, 0, .aload 0), (1818, 0, .iload 3), (1819, 0, .iconst 3), (1820, 0, .iadd), (1821, 0, .iaload), (1822, 1005, .invokevirtual 641873), (1825, 0, .aload 2), (1826, 0, .aload 0), (1827, 0, .iload 3), (1828, 0, .iconst 1), (1829, 0, .iadd), (1830, 0, .iaload), (1831, 0, .aload 0), (1832, 0, .iload 3), (1833, 0, .iconst 2), (1834, 0, .iadd), (1835, 0, .iaload), (1836, 0, .aload 0), (1837, 0, .iload 3), (1838, 0, .iconst 3), (1839, 0, .iadd), (1840, 0, .iaload), (1841, 1842, .invokevirtual 714897), (1844, 0, .if_icmp .eq 2611), (1847, 0, .iconst 0), (1848, 0, .areturn), (1849, 0, .aload 1), (1850, 0, .aload 0), (1851, 0, .iload 3), (1852, 0, .iconst 1), (1853, 0, .iadd), (1854, 0, .iaload), (1855, 0, .aload 0), (1856, 0, .iload 3), (1857, 0, .iconst 2), (1858, 0, .iadd), (1859, 0, .iaload), (1860, 0, .aload 0)]
def cd_Law_law_14 : List (Nat × Nat × Instr) := [(1861, 0, .iload 3), (1862, 0, .iconst 3), (1863, 0, .iadd), (1864, 0, .iaload), (1865, 1050, .invokevirtual 641937), (1868, 0, .aload 2), (1869, 0, .aload 0), (1870, 0, .iload 3), (1871, 0, .iconst 1), (1872, 0, .iadd), (1873, 0, .iaload), (1874, 0, .aload 0), (1875, 0, .iload 3), (1876, 0, .iconst 2), (1877, 0, .iadd), (1878, 0, .iaload), (1879, 0, .aload 0), (1880, 0, .iload 3), (1881, 0, .iconst 3), (1882, 0, .iadd), (1883, 0, .iaload), (1884, 1866, .invokevirtual 715025), (1887, 0, .if_icmp .eq 2611), (1890, 0, .iconst 0), (1891, 0, .areturn), (1892, 0, .aload 1), (1893, 0, .aload 0), (1894, 0, .iload 3), (1895, 0, .iconst 1), (1896, 0, .iadd), (1897, 0, .iaload), (1898, 0, .aload 0), (1899, 0, .iload 3), (1900, 0, .iconst 2), (1901, 0, .iadd), (1902, 0, .iaload), (1903, 0, .aload 0), (1904, 0, .iload 3), (1905, 0, .iconst 3), (1906, 0, .iadd), (1907, 0, .iaload), (1908, 0, .aload 0), (1909, 0, .iload 3), (1910, 0, .iconst 4), (1911, 0, .iadd), (1912, 0, .iaload), (1913, 1054, .invokevirtual 642005), (1916, 0, .aload 2), (1917, 0, .aload 0), (1918, 0, .iload 3), (1919, 0, .iconst 1), (1920, 0, .iadd), (1921, 0, .iaload), (1922, 0, .aload 0), (1923, 0, .iload 3), (1924, 0, .iconst 2), (1925, 0, .iadd), (1926, 0, .iaload), (1927, 0, .aload 0), (1928, 0, .iload 3), (1929, 0, .iconst 3), (1930, 0, .iadd), (1931, 0, .iaload), (1932, 0, .aload 0), (1933, 0, .iload 3), (1934, 0, .iconst 4), (1935, 0, .iadd), (1936, 0, .iaload), (1937, 1874, .invokevirtual 715093), (1940, 0, .if_icmp .eq 2611), (1943, 0, .iconst 0), (1944, 0, .areturn), (1945, 0, .aload 1), (1946, 0, .aload 0), (1947, 0, .iload 3), (1948, 0, .iconst 1), (1949, 0, .iadd), (1950, 0, .iaload), (1951, 0, .aload 0), (1952, 0, .iload 3), (1953, 0, .iconst 2), (1954, 0, .iadd), (1955, 0, .iaload), (1956, 1062, .invokevirtual 642061), (1959, 0, .aload 2), (1960, 0, .aload 0), (1961, 0, .iload 3), (1962, 0, .iconst 1), (1963, 0, .iadd), (1964, 0, .iaload), (1965, 0, .aload 0), (1966, 0, .iload 3), (1967, 0, .iconst 2), (1968, 0, .iadd), (1969, 0, .iaload), (1970, 1878, .invokevirtual 715469), (1973, 0, .if_icmp .eq 2611), (1976, 0, .iconst 0), (1977, 0, .areturn), (1978, 0, .aload 1)]
def cd_Law_law_15 : List (Nat × Nat × Instr) := [(1979, 0, .aload 0), (1980, 0, .iload 3), (1981, 0, .iconst 1), (1982, 0, .iadd), (1983, 0, .iaload), (1984, 0, .aload 0), (1985, 0, .iload 3), (1986, 0, .iconst 2), (1987, 0, .iadd), (1988, 0, .iaload), (1989, 0, .aload 0), (1990, 0, .iload 3), (1991, 0, .iconst 3), (1992, 0, .iadd), (1993, 0, .iaload), (1994, 1083, .invokevirtual 642129), (1997, 0, .aload 2), (1998, 0, .aload 0), (1999, 0, .iload 3), (2000, 0, .iconst 1), (2001, 0, .iadd), (2002, 0, .iaload), (2003, 0, .aload 0), (2004, 0, .iload 3), (2005, 0, .iconst 2), (2006, 0, .iadd), (2007, 0, .iaload), (2008, 0, .aload 0), (2009, 0, .iload 3), (2010, 0, .iconst 3), (2011, 0, .iadd), (2012, 0, .iaload), (2013, 1899, .invokevirtual 715537), (2016, 0, .if_icmp .eq 2611), (2019, 0, .iconst 0), (2020, 0, .areturn), (2021, 0, .aload 1), (2022, 0, .aload 0), (2023, 0, .iload 3), (2024, 0, .iconst 1), (2025, 0, .iadd), (2026, 0, .iaload), (2027, 0, .aload 0), (2028, 0, .iload 3), (2029, 0, .iconst 2), (2030, 0, .iadd), (2031, 0, .iaload), (2032, 0, .aload 0), (2033, 0, .iload 3), (2034, 0, .iconst 3), (2035, 0, .iadd), (2036, 0, .iaload), (2037, 1092, .invokevirtual 642193), (2040, 0, .aload 2), (2041, 0, .aload 0), (2042, 0, .iload 3), (2043, 0, .iconst 1), (2044, 0, .iadd), (2045, 0, .iaload), (2046, 0, .aload 0), (2047, 0, .iload 3), (2048, 0, .iconst 2), (2049, 0, .iadd), (2050, 0, .iaload), (2051, 0, .aload 0), (2052, 0, .iload 3), (2053, 0, .iconst 3), (2054, 0, .iadd), (2055, 0, .iaload), (2056, 1903, .invokevirtual 715729), (2059, 0, .if_icmp .eq 2611), (2062, 0, .iconst 0), (2063, 0, .areturn), (2064, 0, .aload 1), (2065, 0, .aload 0), (2066, 0, .iload 3), (2067, 0, .iconst 1), (2068, 0, .iadd), (2069, 0, .iaload), (2070, 0, .aload 0), (2071, 0, .iload 3), (2072, 0, .iconst 2), (2073, 0, .iadd), (2074, 0, .iaload), (2075, 1108, .invokevirtual 642253), (2078, 0, .aload 2), (2079, 0, .aload 0), (2080, 0, .iload 3), (2081, 0, .iconst 1), (2082, 0, .iadd), (2083, 0, .iaload), (2084, 0, .aload 0), (2085, 0, .iload 3), (2086, 0, .iconst 2), (2087, 0, .iadd), (2088, 0, .iaload), (2089, 1915, .invokevirtual 715853), (2092, 0, .if_icmp .eq 2611), (2095, 0, .iconst 0), (2096, 0, .areturn)]
def cd_Law_law_16 : List (Nat × Nat × Instr) := [(2097, 0, .aload 1), (2098, 0, .aload 0), (2099, 0, .iload 3), (2100, 0, .iconst 1), (2101, 0, .iadd), (2102, 0, .iaload), (2103, 0, .aload 0), (2104, 0, .iload 3), (2105, 0, .iconst 2), (2106, 0, .iadd), (2107, 0, .iaload), (2108, 1115, .invokevirtual 642317), (2111, 0, .aload 2), (2112, 0, .aload 0), (2113, 0, .iload 3), (2114, 0, .iconst 1), (2115, 0, .iadd), (2116, 0, .iaload), (2117, 0, .aload 0), (2118, 0, .iload 3), (2119, 0, .iconst 2), (2120, 0, .iadd), (2121, 0, .iaload), (2122, 1922, .invokevirtual 715917), (2125, 0, .if_icmp .eq 2611), (2128, 0, .iconst 0), (2129, 0, .areturn), (2130, 0, .aload 1), (2131, 0, .aload 0), (2132, 0, .iload 3), (2133, 0, .iconst 1), (2134, 0, .iadd), (2135, 0, .iaload), (2136, 0, .aload 0), (2137, 0, .iload 3), (2138, 0, .iconst 2), (2139, 0, .iadd), (2140, 0, .iaload), (2141, 0, .aload 0), (2142, 0, .iload 3), (2143, 0, .iconst 3), (2144, 0, .iadd), (2145, 0, .iaload), (2146, 1124, .invokevirtual 642385), (2149, 0, .aload 2), (2150, 0, .aload 0), (2151, 0, .iload 3), (2152, 0, .iconst 1), (2153, 0, .iadd), (2154, 0, .iaload), (2155, 0, .aload 0), (2156, 0, .iload 3), (2157, 0, .iconst 2), (2158, 0, .iadd), (2159, 0, .iaload), (2160, 0, .aload 0), (2161, 0, .iload 3), (2162, 0, .iconst 3), (2163, 0, .iadd), (2164, 0, .iaload), (2165, 1927, .invokevirtual 715985), (2168, 0, .if_icmp .eq 2611), (2171, 0, .iconst 0), (2172, 0, .areturn), (2173, 0, .aload 1), (2174, 0, .aload 0), (2175, 0, .iload 3), (2176, 0, .iconst 1), (2177, 0, .iadd), (2178, 0, .iaload), (2179, 0, .aload 0), (2180, 0, .iload 3), (2181, 0, .iconst 2), (2182, 0, .iadd), (2183, 0, .iaload), (2184, 0, .aload 0), (2185, 0, .iload 3), (2186, 0, .iconst 3), (2187, 0, .iadd), (2188, 0, .iaload), (2189, 1129, .invokevirtual 642449), (2192, 0, .aload 2), (2193, 0, .aload 0), (2194, 0, .iload 3), (2195, 0, .iconst 1), (2196, 0, .iadd), (2197, 0, .iaload), (2198, 0, .aload 0), (2199, 0, .iload 3), (2200, 0, .iconst 2), (2201, 0, .iadd), (2202, 0, .iaload), (2203, 0, .aload 0), (2204, 0, .iload 3), (2205, 0, .iconst 3), (2206, 0, .iadd), (2207, 0, .iaload), (2208, 1931, .invokevirtual 716113), (2211, 0, .if_icmp .eq 2611), (2214, 0, .iconst 0)]
def cd_Law_law_17 : List (Nat × Nat × Instr) := [(2215, 0, .areturn), (2216, 0, .aload 1), (2217, 0, .aload 0), (2218, 0, .iload 3), (2219, 0, .iconst 1), (2220, 0, .iadd), (2221, 0, .iaload), (2222, 0, .aload 0), (2223, 0, .iload 3), (2224, 0, .iconst 2), (2225, 0, .iadd), (2226, 0, .iaload), (2227, 0, .aload 0), (2228, 0, .iload 3), (2229, 0, .iconst 3), (2230, 0, .iadd), (2231, 0, .iaload), (2232, 1140, .invokevirtual 642513), (2235, 0, .aload 2), (2236, 0, .aload 0), (2237, 0, .iload 3), (2238, 0, .iconst 1), (2239, 0, .iadd), (2240, 0, .iaload), (2241, 0, .aload 0), (2242, 0, .iload 3), (2243, 0, .iconst 2), (2244, 0, .iadd), (2245, 0, .iaload), (2246, 0, .aload 0), (2247, 0, .iload 3), (2248, 0, .iconst 3), (2249, 0, .iadd), (2250, 0, .iaload), (2251, 1942, .invokevirtual 716177), (2254, 0, .if_icmp .eq 2611), (2257, 0, .iconst 0), (2258, 0, .areturn), (2259, 0, .aload 1), (2260, 0, .aload 0), (2261, 0, .iload 3), (2262, 0, .iconst 1), (2263, 0, .iadd), (2264, 0, .iaload), (2265, 0, .aload 0), (2266, 0, .iload 3), (2267, 0, .iconst 2), (2268, 0, .iadd), (2269, 0, .iaload), (2270, 1148, .invokevirtual 642573), (2273, 0, .aload 2), (2274, 0, .aload 0), (2275, 0, .iload 3), (2276, 0, .iconst 1), (2277, 0, .iadd), (2278, 0, .iaload), (2279, 0, .aload 0), (2280, 0, .iload 3), (2281, 0, .iconst 2), (2282, 0, .iadd), (2283, 0, .iaload), (2284, 1946, .invokevirtual 716237), (2287, 0, .if_icmp .eq 2611), (2290, 0, .iconst 0), (2291, 0, .areturn), (2292, 0, .aload 1), (2293, 0, .aload 0), (2294, 0, .iload 3), (2295, 0, .iconst 1), (2296, 0, .iadd), (2297, 0, .iaload), (2298, 0, .aload 0), (2299, 0, .iload 3), (2300, 0, .iconst 2), (2301, 0, .iadd), (2302, 0, .iaload), (2303, 0, .aload 0), (2304, 0, .iload 3), (2305, 0, .iconst 3), (2306, 0, .iadd), (2307, 0, .iaload), (2308, 1152, .invokevirtual 642642), (2311, 0, .aload 2), (2312, 0, .aload 0), (2313, 0, .iload 3), (2314, 0, .iconst 1), (2315, 0, .iadd), (2316, 0, .iaload), (2317, 0, .aload 0), (2318, 0, .iload 3), (2319, 0, .iconst 2), (2320, 0, .iadd), (2321, 0, .iaload), (2322, 0, .aload 0), (2323, 0, .iload 3), (2324, 0, .iconst 3), (2325, 0, .iadd), (2326, 0, .iaload), (2327, 1956, .invokevirtual 716434), (2330, 0, .lcmp)]
def cd_Law_law_18 : List (Nat × Nat × Instr) := [(2331, 0, .ifCond .eq 2611), (2334, 0, .iconst 0), (2335, 0, .areturn), (2336, 0, .aload 1), (2337, 0, .aload 0), (2338, 0, .iload 3), (2339, 0, .iconst 1), (2340, 0, .iadd), (2341, 0, .iaload), (2342, 1173, .invokevirtual 642697), (2345, 0, .aload 2), (2346, 0, .aload 0), (2347, 0, .iload 3), (2348, 0, .iconst 1), (2349, 0, .iadd), (2350, 0, .iaload), (2351, 1969, .invokevirtual 716489), (2354, 0, .if_icmp .eq 2611), (2357, 0, .iconst 0), (2358, 0, .areturn), (2359, 0, .aload 1), (2360, 0, .aload 0), (2361, 0, .iload 3), (2362, 0, .iconst 1), (2363, 0, .iadd), (2364, 0, .iaload), (2365, 1177, .invokevirtual 642761), (2368, 0, .aload 2), (2369, 0, .aload 0), (2370, 0, .iload 3), (2371, 0, .iconst 1), (2372, 0, .iadd), (2373, 0, .iaload), (2374, 1973, .invokevirtual 716809), (2377, 0, .if_icmp .eq 2611), (2380, 0, .iconst 0), (2381, 0, .areturn), (2382, 0, .aload 1), (2383, 0, .aload 0), (2384, 0, .iload 3), (2385, 0, .iconst 1), (2386, 0, .iadd), (2387, 0, .iaload), (2388, 0, .aload 0), (2389, 0, .iload 3), (2390, 0, .iconst 2), (2391, 0, .iadd), (2392, 0, .iaload), (2393, 1215, .invokevirtual 642829), (2396, 0, .aload 2), (2397, 0, .aload 0), (2398, 0, .iload 3), (2399, 0, .iconst 1), (2400, 0, .iadd), (2401, 0, .iaload), (2402, 0, .aload 0), (2403, 0, .iload 3), (2404, 0, .iconst 2), (2405, 0, .iadd), (2406, 0, .iaload), (2407, 1996, .invokevirtual 716877), (2410, 0, .if_icmp .eq 2611), (2413, 0, .iconst 0), (2414, 0, .areturn), (2415, 0, .aload 1), (2416, 0, .aload 0), (2417, 0, .iload 3), (2418, 0, .iconst 1), (2419, 0, .iadd), (2420, 0, .iaload), (2421, 1223, .invokevirtual 642889), (2424, 0, .aload 2), (2425, 0, .aload 0), (2426, 0, .iload 3), (2427, 0, .iconst 1), (2428, 0, .iadd), (2429, 0, .iaload), (2430, 2000, .invokevirtual 716937), (2433, 0, .if_icmp .eq 2611), (2436, 0, .iconst 0), (2437, 0, .areturn), (2438, 0, .aload 1), (2439, 0, .aload 0), (2440, 0, .iload 3), (2441, 0, .iconst 1), (2442, 0, .iadd), (2443, 0, .iaload), (2444, 0, .aload 0), (2445, 0, .iload 3), (2446, 0, .iconst 2), (2447, 0, .iadd), (2448, 0, .iaload), (2449, 1227, .invokevirtual 642957), (2452, 0, .aload 2), (2453, 0, .aload 0), (2454, 0, .iload 3), (2455, 0, .iconst 1), (2456, 0, .iadd), (2457, 0, .iaload), (2458, 0, .aload 0)]
def cd_Law_law_19 : List (Nat × Nat × Instr) := [(2459, 0, .iload 3), (2460, 0, .iconst 2), (2461, 0, .iadd), (2462, 0, .iaload), (2463, 2004, .invokevirtual 717005), (2466, 0, .if_icmp .eq 2611), (2469, 0, .iconst 0), (2470, 0, .areturn), (2471, 0, .aload 1), (2472, 0, .aload 0), (2473, 0, .iload 3), (2474, 0, .iconst 1), (2475, 0, .iadd), (2476, 0, .iaload), (2477, 0, .aload 0), (2478, 0, .iload 3), (2479, 0, .iconst 2), (2480, 0, .iadd), (2481, 0, .iaload), (2482, 1231, .invokevirtual 643021), (2485, 0, .aload 2), (2486, 0, .aload 0), (2487, 0, .iload 3), (2488, 0, .iconst 1), (2489, 0, .iadd), (2490, 0, .iaload), (2491, 0, .aload 0), (2492, 0, .iload 3), (2493, 0, .iconst 2), (2494, 0, .iadd), (2495, 0, .iaload), (2496, 2009, .invokevirtual 717069), (2499, 0, .if_icmp .eq 2611), (2502, 0, .iconst 0), (2503, 0, .areturn), (2504, 0, .aload 1), (2505, 0, .aload 0), (2506, 0, .iload 3), (2507, 0, .iconst 1), (2508, 0, .iadd), (2509, 0, .iaload), (2510, 0, .aload 0), (2511, 0, .iload 3), (2512, 0, .iconst 2), (2513, 0, .iadd), (2514, 0, .iaload), (2515, 1235, .invokevirtual 643085), (2518, 0, .aload 2), (2519, 0, .aload 0), (2520, 0, .iload 3), (2521, 0, .iconst 1), (2522, 0, .iadd), (2523, 0, .iaload), (2524, 0, .aload 0), (2525, 0, .iload 3), (2526, 0, .iconst 2), (2527, 0, .iadd), (2528, 0, .iaload), (2529, 2013, .invokevirtual 717197), (2532, 0, .if_icmp .eq 2611), (2535, 0, .iconst 0), (2536, 0, .areturn), (2537, 0, .aload 1), (2538, 0, .aload 0), (2539, 0, .iload 3), (2540, 0, .iconst 1), (2541, 0, .iadd), (2542, 0, .iaload), (2543, 0, .aload 0), (2544, 0, .iload 3), (2545, 0, .iconst 2), (2546, 0, .iadd), (2547, 0, .iaload), (2548, 0, .aload 0), (2549, 0, .iload 3), (2550, 0, .iconst 3), (2551, 0, .iadd), (2552, 0, .iaload), (2553, 1243, .invokevirtual 643153), (2556, 0, .aload 2), (2557, 0, .aload 0), (2558, 0, .iload 3), (2559, 0, .iconst 1), (2560, 0, .iadd), (2561, 0, .iaload), (2562, 0, .aload 0), (2563, 0, .iload 3), (2564, 0, .iconst 2), (2565, 0, .iadd), (2566, 0, .iaload), (2567, 0, .aload 0), (2568, 0, .iload 3), (2569, 0, .iconst 3), (2570, 0, .iadd), (2571, 0, .iaload), (2572, 2021, .invokevirtual 717265), (2575, 0, .if_icmp .eq 2611), (2578, 0, .iconst 0), (2579, 0, .areturn), (2580, 0, .aload 1)]
def cd_Law_law_20 : List (Nat × Nat × Instr) := [(2581, 0, .aload 0), (2582, 0, .iload 3), (2583, 0, .iconst 1), (2584, 0, .iadd), (2585, 0, .iaload), (2586, 0, .aload 0), (2587, 0, .iload 3), (2588, 0, .iconst 2), (2589, 0, .iadd), (2590, 0, .iaload), (2591, 1247, .invokevirtual 643213), (2594, 0, .aload 2), (2595, 0, .aload 0), (2596, 0, .iload 3), (2597, 0, .iconst 1), (2598, 0, .iadd), (2599, 0, .iaload), (2600, 0, .aload 0), (2601, 0, .iload 3), (2602, 0, .iconst 2), (2603, 0, .iadd), (2604, 0, .iaload), (2605, 2025, .invokevirtual 717389), (2608, 0, .if_icmp .eq 2611), (2611, 0, .iconst 0), (2612, 0, .areturn), (2613, 0, .aload 1), (2614, 0, .aload 0), (2615, 0, .iload 3), (2616, 0, .iconst 1), (2617, 0, .iadd), (2618, 0, .iaload), (2619, 0, .aload 0), (2620, 0, .iload 3), (2621, 0, .iconst 2), (2622, 0, .iadd), (2623, 0, .iaload), (2624, 0, .aload 0), (2625, 0, .iload 3), (2626, 0, .iconst 3), (2627, 0, .iadd), (2628, 0, .iaload), (2629, 0, .aload 0), (2630, 0, .iload 3), (2631, 0, .iconst 4), (2632, 0, .iadd), (2633, 0, .iaload), (2634, 0, .aload 0), (2635, 0, .iload 3), (2636, 0, .iconst 5), (2637, 0, .iadd), (2638, 0, .iaload), (2639, 1259, .invokevirtual 643289), (2642, 0, .aload 2), (2643, 0, .aload 0), (2644, 0, .iload 3), (2645, 0, .iconst 1), (2646, 0, .iadd), (2647, 0, .iaload), (2648, 0, .aload 0), (2649, 0, .iload 3), (2650, 0, .iconst 2), (2651, 0, .iadd), (2652, 0, .iaload), (2653, 0, .aload 0), (2654, 0, .iload 3), (2655, 0, .iconst 3), (2656, 0, .iadd), (2657, 0, .iaload), (2658, 0, .aload 0), (2659, 0, .iload 3), (2660, 0, .iconst 4), (2661, 0, .iadd), (2662, 0, .iaload), (2663, 0, .aload 0), (2664, 0, .iload 3), (2665, 0, .iconst 5), (2666, 0, .iadd), (2667, 0, .iaload), (2668, 2033, .invokevirtual 717529), (2671, 0, .if_icmp .eq 2611), (2674, 0, .iconst 0), (2675, 0, .areturn), (2676, 0, .aload 1), (2677, 0, .aload 0), (2678, 0, .iload 3), (2679, 0, .iconst 1), (2680, 0, .iadd), (2681, 0, .iaload), (2682, 0, .aload 0), (2683, 0, .iload 3), (2684, 0, .iconst 2), (2685, 0, .iadd), (2686, 0, .iaload), (2687, 0, .aload 0), (2688, 0, .iload 3), (2689, 0, .iconst 3), (2690, 0, .iadd), (2691, 0, .iaload), (2692, 1263, .invokevirtual 643345)]
def cd_Law_law_21 : List (Nat × Nat × Instr) := [(2695, 0, .aload 2), (2696, 0, .aload 0), (2697, 0, .iload 3), (2698, 0, .iconst 1), (2699, 0, .iadd), (2700, 0, .iaload), (2701, 0, .aload 0), (2702, 0, .iload 3), (2703, 0, .iconst 2), (2704, 0, .iadd), (2705, 0, .iaload), (2706, 0, .aload 0), (2707, 0, .iload 3), (2708, 0, .iconst 3), (2709, 0, .iadd), (2710, 0, .iaload), (2711, 2041, .invokevirtual 717585), (2714, 0, .if_icmp .eq 2611), (2717, 0, .iconst 0), (2718, 0, .areturn), (2719, 0, .aload 1), (2720, 0, .aload 0), (2721, 0, .iload 3), (2722, 0, .iconst 1), (2723, 0, .iadd), (2724, 0, .iaload), (2725, 0, .aload 0), (2726, 0, .iload 3), (2727, 0, .iconst 2), (2728, 0, .iadd), (2729, 0, .iaload), (2730, 0, .aload 0), (2731, 0, .iload 3), (2732, 0, .iconst 3), (2733, 0, .iadd), (2734, 0, .iaload), (2735, 0, .aload 0), (2736, 0, .iload 3), (2737, 0, .iconst 4), (2738, 0, .iadd), (2739, 0, .iaload), (2740, 1267, .invokevirtual 643413), (2743, 0, .aload 2), (2744, 0, .aload 0), (2745, 0, .iload 3), (2746, 0, .iconst 1), (2747, 0, .iadd), (2748, 0, .iaload), (2749, 0, .aload 0), (2750, 0, .iload 3), (2751, 0, .iconst 2), (2752, 0, .iadd), (2753, 0, .iaload), (2754, 0, .aload 0), (2755, 0, .iload 3), (2756, 0, .iconst 3), (2757, 0, .iadd), (2758, 0, .iaload), (2759, 0, .aload 0), (2760, 0, .iload 3), (2761, 0, .iconst 4), (2762, 0, .iadd), (2763, 0, .iaload), (2764, 2045, .invokevirtual 717653), (2767, 0, .if_icmp .eq 2611), (2770, 0, .iconst 0), (2771, 0, .areturn), (2772, 0, .aload 1), (2773, 0, .aload 0), (2774, 0, .iload 3), (2775, 0, .iconst 1), (2776, 0, .iadd), (2777, 0, .iaload), (2778, 0, .aload 0), (2779, 0, .iload 3), (2780, 0, .iconst 2), (2781, 0, .iadd), (2782, 0, .iaload), (2783, 0, .aload 0), (2784, 0, .iload 3), (2785, 0, .iconst 3), (2786, 0, .iadd), (2787, 0, .iaload), (2788, 0, .aload 0), (2789, 0, .iload 3), (2790, 0, .iconst 4), (2791, 0, .iadd), (2792, 0, .iaload), (2793, 1271, .invokevirtual 643477), (2796, 0, .aload 2), (2797, 0, .aload 0), (2798, 0, .iload 3), (2799, 0, .iconst 1), (2800, 0, .iadd), (2801, 0, .iaload), (2802, 0, .aload 0), (2803, 0, .iload 3), (2804, 0, .iconst 2), (2805, 0, .iadd), (2806, 0, .iaload)]
def cd_Law_law_22 : List (Nat × Nat × Instr) := [(2807, 0, .aload 0), (2808, 0, .iload 3), (2809, 0, .iconst 3), (2810, 0, .iadd), (2811, 0, .iaload), (2812, 0, .aload 0), (2813, 0, .iload 3), (2814, 0, .iconst 4), (2815, 0, .iadd), (2816, 0, .iaload), (2817, 2049, .invokevirtual 717717), (2820, 0, .if_icmp .eq 2611), (2823, 0, .iconst 0), (2824, 0, .areturn), (2825, 0, .aload 1), (2826, 0, .aload 0), (2827, 0, .iload 3), (2828, 0, .iconst 1), (2829, 0, .iadd), (2830, 0, .iaload), (2831, 0, .aload 0), (2832, 0, .iload 3), (2833, 0, .iconst 2), (2834, 0, .iadd), (2835, 0, .iaload), (2836, 0, .aload 0), (2837, 0, .iload 3), (2838, 0, .iconst 3), (2839, 0, .iadd), (2840, 0, .iaload), (2841, 0, .aload 0), (2842, 0, .iload 3), (2843, 0, .iconst 4), (2844, 0, .iadd), (2845, 0, .iaload), (2846, 0, .aload 0), (2847, 0, .iload 3), (2848, 0, .iconst 5), (2849, 0, .iadd), (2850, 0, .iaload), (2851, 0, .aload 0), (2852, 0, .iload 3), (2853, 0, .iconst 6), (2855, 0, .iadd), (2856, 0, .iaload), (2857, 1276, .invokevirtual 643549), (2860, 0, .aload 2), (2861, 0, .aload 0), (2862, 0, .iload 3), (2863, 0, .iconst 1), (2864, 0, .iadd), (2865, 0, .iaload), (2866, 0, .aload 0), (2867, 0, .iload 3), (2868, 0, .iconst 2), (2869, 0, .iadd), (2870, 0, .iaload), (2871, 0, .aload 0), (2872, 0, .iload 3), (2873, 0, .iconst 3), (2874, 0, .iadd), (2875, 0, .iaload), (2876, 0, .aload 0), (2877, 0, .iload 3), (2878, 0, .iconst 4), (2879, 0, .iadd), (2880, 0, .iaload), (2881, 0, .aload 0), (2882, 0, .iload 3), (2883, 0, .iconst 5), (2884, 0, .iadd), (2885, 0, .iaload), (2886, 0, .aload 0), (2887, 0, .iload 3), (2888, 0, .iconst 6), (2890, 0, .iadd), (2891, 0, .iaload), (2892, 2053, .invokevirtual 717917), (2895, 0, .if_icmp .eq 2611), (2898, 0, .iconst 0), (2899, 0, .areturn), (2900, 0, .aload 1), (2901, 0, .aload 0), (2902, 0, .iload 3), (2903, 0, .iconst 1), (2904, 0, .iadd), (2905, 0, .iaload), (2906, 0, .aload 0), (2907, 0, .iload 3), (2908, 0, .iconst 2), (2909, 0, .iadd), (2910, 0, .iaload), (2911, 0, .aload 0), (2912, 0, .iload 3), (2913, 0, .iconst 3), (2914, 0, .iadd), (2915, 0, .iaload), (2916, 0, .aload 0), (2917, 0, .iload 3), (2918, 0, .iconst 4)]
def cd_Law_law_23 : List (Nat × Nat × Instr) := [(2919, 0, .iadd), (2920, 0, .iaload), (2921, 0, .aload 0), (2922, 0, .iload 3), (2923, 0, .iconst 5), (2924, 0, .iadd), (2925, 0, .iaload), (2926, 0, .aload 0), (2927, 0, .iload 3), (2928, 0, .iconst 6), (2930, 0, .iadd), (2931, 0, .iaload), (2932, 0, .aload 0), (2933, 0, .iload 3), (2934, 0, .iconst 7), (2936, 0, .iadd), (2937, 0, .iaload), (2938, 1289, .invokevirtual 643617), (2941, 0, .aload 2), (2942, 0, .aload 0), (2943, 0, .iload 3), (2944, 0, .iconst 1), (2945, 0, .iadd), (2946, 0, .iaload), (2947, 0, .aload 0), (2948, 0, .iload 3), (2949, 0, .iconst 2), (2950, 0, .iadd), (2951, 0, .iaload), (2952, 0, .aload 0), (2953, 0, .iload 3), (2954, 0, .iconst 3), (2955, 0, .iadd), (2956, 0, .iaload), (2957, 0, .aload 0), (2958, 0, .iload 3), (2959, 0, .iconst 4), (2960, 0, .iadd), (2961, 0, .iaload), (2962, 0, .aload 0), (2963, 0, .iload 3), (2964, 0, .iconst 5), (2965, 0, .iadd), (2966, 0, .iaload), (2967, 0, .aload 0), (2968, 0, .iload 3), (2969, 0, .iconst 6), (2971, 0, .iadd), (2972, 0, .iaload), (2973, 0, .aload 0), (2974, 0, .iload 3), (2975, 0, .iconst 7), (2977, 0, .iadd), (2978, 0, .iaload), (2979, 2065, .invokevirtual 717985), (2982, 0, .if_icmp .eq 2611), (2985, 0, .iconst 0), (2986, 0, .areturn), (2987, 0, .aload 1), (2988, 0, .aload 0), (2989, 0, .iload 3), (2990, 0, .iconst 1), (2991, 0, .iadd), (2992, 0, .iaload), (2993, 0, .aload 0), (2994, 0, .iload 3), (2995, 0, .iconst 2), (2996, 0, .iadd), (2997, 0, .iaload), (2998, 0, .aload 0), (2999, 0, .iload 3), (3000, 0, .iconst 3), (3001, 0, .iadd), (3002, 0, .iaload), (3003, 0, .aload 0), (3004, 0, .iload 3), (3005, 0, .iconst 4), (3006, 0, .iadd), (3007, 0, .iaload), (3008, 1293, .invokevirtual 643669), (3011, 0, .aload 2), (3012, 0, .aload 0), (3013, 0, .iload 3), (3014, 0, .iconst 1), (3015, 0, .iadd), (3016, 0, .iaload), (3017, 0, .aload 0), (3018, 0, .iload 3), (3019, 0, .iconst 2), (3020, 0, .iadd), (3021, 0, .iaload), (3022, 0, .aload 0), (3023, 0, .iload 3), (3024, 0, .iconst 3), (3025, 0, .iadd), (3026, 0, .iaload), (3027, 0, .aload 0), (3028, 0, .iload 3), (3029, 0, .iconst 4), (3030, 0, .iadd)]
def cd_Law_law_24 : List (Nat × Nat × Instr) := [(3031, 0, .iaload), (3032, 2069, .invokevirtual 718037), (3035, 0, .if_icmp .eq 2611), (3038, 0, .iconst 0), (3039, 0, .areturn), (3040, 0, .aload 1), (3041, 0, .aload 0), (3042, 0, .iload 3), (3043, 0, .iconst 1), (3044, 0, .iadd), (3045, 0, .iaload), (3046, 1297, .invokevirtual 643721), (3049, 0, .aload 2), (3050, 0, .aload 0), (3051, 0, .iload 3), (3052, 0, .iconst 1), (3053, 0, .iadd), (3054, 0, .iaload), (3055, 2073, .invokevirtual 718089), (3058, 0, .if_icmp .eq 2611), (3061, 0, .iconst 0), (3062, 0, .areturn), (3063, 0, .aload 1), (3064, 0, .aload 0), (3065, 0, .iload 3), (3066, 0, .iconst 1), (3067, 0, .iadd), (3068, 0, .iaload), (3069, 1306, .invokeinterface 643785 0), (3072, 0, .aload 2), (3073, 0, .aload 0), (3074, 0, .iload 3), (3075, 0, .iconst 1), (3076, 0, .iadd), (3077, 0, .iaload), (3078, 1473, .invokevirtual 709321), (3081, 0, .if_icmp .eq 2611), (3084, 0, .iconst 0), (3085, 0, .areturn), (3086, 0, .aload 1), (3087, 0, .aload 0), (3088, 0, .iload 3), (3089, 0, .iconst 1), (3090, 0, .iadd), (3091, 0, .iaload), (3092, 1310, .invokevirtual 643849), (3095, 0, .aload 2), (3096, 0, .aload 0), (3097, 0, .iload 3), (3098, 0, .iconst 1), (3099, 0, .iadd), (3100, 0, .iaload), (3101, 1481, .invokevirtual 709385), (3104, 0, .if_icmp .eq 2611), (3107, 0, .iconst 0), (3108, 0, .areturn), (3109, 0, .aload 1), (3110, 0, .aload 0), (3111, 0, .iload 3), (3112, 0, .iconst 1), (3113, 0, .iadd), (3114, 0, .iaload), (3115, 0, .aload 0), (3116, 0, .iload 3), (3117, 0, .iconst 2), (3118, 0, .iadd), (3119, 0, .iaload), (3120, 0, .aload 0), (3121, 0, .iload 3), (3122, 0, .iconst 3), (3123, 0, .iadd), (3124, 0, .iaload), (3125, 1314, .invokevirtual 643921), (3128, 0, .aload 2), (3129, 0, .aload 0), (3130, 0, .iload 3), (3131, 0, .iconst 1), (3132, 0, .iadd), (3133, 0, .iaload), (3134, 0, .aload 0), (3135, 0, .iload 3), (3136, 0, .iconst 2), (3137, 0, .iadd), (3138, 0, .iaload), (3139, 0, .aload 0), (3140, 0, .iload 3), (3141, 0, .iconst 3), (3142, 0, .iadd), (3143, 0, .iaload), (3144, 2077, .invokevirtual 718289), (3147, 0, .if_icmp .eq 2611), (3150, 0, .iconst 0), (3151, 0, .areturn), (3152, 0, .aload 1), (3153, 0, .aload 0), (3154, 0, .iload 3), (3155, 0, .iconst 1), (3156, 0, .iadd), (3157, 0, .iaload), (3158, 0, .aload 0)]
def cd_Law_law_25 : List (Nat × Nat × Instr) := [(3159, 0, .iload 3), (3160, 0, .iconst 2), (3161, 0, .iadd), (3162, 0, .iaload), (3163, 0, .aload 0), (3164, 0, .iload 3), (3165, 0, .iconst 3), (3166, 0, .iadd), (3167, 0, .iaload), (3168, 0, .i2l), (3169, 0, .iconst 32), (3171, 0, .lshl), (3172, 0, .aload 0), (3173, 0, .iload 3), (3174, 0, .iconst 4), (3175, 0, .iadd), (3176, 0, .iaload), (3177, 0, .i2l), (3178, 2092, .ldc2_w 29), (3181, 0, .land), (3182, 0, .lor), (3183, 1334, .invokevirtual 643985), (3186, 0, .aload 2), (3187, 0, .aload 0), (3188, 0, .iload 3), (3189, 0, .iconst 1), (3190, 0, .iadd), (3191, 0, .iaload), (3192, 0, .aload 0), (3193, 0, .iload 3), (3194, 0, .iconst 2), (3195, 0, .iadd), (3196, 0, .iaload), (3197, 0, .aload 0), (3198, 0, .iload 3), (3199, 0, .iconst 3), (3200, 0, .iadd), (3201, 0, .iaload), (3202, 0, .i2l), (3203, 0, .iconst 32), (3205, 0, .lshl), (3206, 0, .aload 0), (3207, 0, .iload 3), (3208, 0, .iconst 4), (3209, 0, .iadd), (3210, 0, .iaload), (3211, 0, .i2l), (3212, 2092, .ldc2_w 29), (3215, 0, .land), (3216, 0, .lor), (3217, 2081, .invokevirtual 718353), (3220, 0, .if_icmp .eq 2611), (3223, 0, .iconst 0), (3224, 0, .areturn), (3225, 0, .aload 1), (3226, 0, .aload 0), (3227, 0, .iload 3), (3228, 0, .iconst 1), (3229, 0, .iadd), (3230, 0, .iaload), (3231, 0, .aload 0), (3232, 0, .iload 3), (3233, 0, .iconst 2), (3234, 0, .iadd), (3235, 0, .iaload), (3236, 0, .aload 0), (3237, 0, .iload 3), (3238, 0, .iconst 3), (3239, 0, .iadd), (3240, 0, .iaload), (3241, 0, .aload 0), (3242, 0, .iload 3), (3243, 0, .iconst 4), (3244, 0, .iadd), (3245, 0, .iaload), (3246, 0, .aload 0), (3247, 0, .iload 3), (3248, 0, .iconst 5), (3249, 0, .iadd), (3250, 0, .iaload), (3251, 1339, .invokevirtual 644057), (3254, 0, .aload 2), (3255, 0, .aload 0), (3256, 0, .iload 3), (3257, 0, .iconst 1), (3258, 0, .iadd), (3259, 0, .iaload), (3260, 0, .aload 0), (3261, 0, .iload 3), (3262, 0, .iconst 2), (3263, 0, .iadd), (3264, 0, .iaload), (3265, 0, .aload 0), (3266, 0, .iload 3), (3267, 0, .iconst 3), (3268, 0, .iadd), (3269, 0, .iaload), (3270, 0, .aload 0), (3271, 0, .iload 3), (3272, 0, .iconst 4)]
def cd_Law_law_26 : List (Nat × Nat × Instr) := [(3273, 0, .iadd), (3274, 0, .iaload), (3275, 0, .aload 0), (3276, 0, .iload 3), (3277, 0, .iconst 5), (3278, 0, .iadd), (3279, 0, .iaload), (3280, 2088, .invokevirtual 718425), (3283, 0, .if_icmp .eq 2611), (3286, 0, .iconst 0), (3287, 0, .areturn), (3288, 0, .iinc 3 8), (3291, 0, .goto 10), (3294, 0, .iconst 1), (3295, 0, .areturn)]
def cd_Law_law : List (Nat × Nat × Instr) := cd_Law_law_0 ++ (cd_Law_law_1 ++ (cd_Law_law_2 ++ (cd_Law_law_3 ++ (cd_Law_law_4 ++ (cd_Law_law_5 ++ (cd_Law_law_6 ++ (cd_Law_law_7 ++ (cd_Law_law_8 ++ (cd_Law_law_9 ++ (cd_Law_law_10 ++ (cd_Law_law_11 ++ (cd_Law_law_12 ++ (cd_Law_law_13 ++ (cd_Law_law_14 ++ (cd_Law_law_15 ++ (cd_Law_law_16 ++ (cd_Law_law_17 ++ (cd_Law_law_18 ++ (cd_Law_law_19 ++ (cd_Law_law_20 ++ (cd_Law_law_21 ++ (cd_Law_law_22 ++ (cd_Law_law_23 ++ (cd_Law_law_24 ++ (cd_Law_law_25 ++ (cd_Law_law_26))))))))))))))))))))))))))
def z_cds0 : List (List (Nat × Nat × Instr)) := [cd_LongBoats_init, cd_LongBoats_feed, cd_LongBoats_end, cd_LongBoats_harbour, cd_LongBoats_fault, cd_LongBoats_man, cd_LongBoats_boat, cd_LongBoats_team, cd_LongBoats_speed, cd_LongBoats_force, cd_LongBoats_stands, cd_LongBoats_pass, cd_LongBoats_why, cd_LongBoats_bout, cd_LongBoats_comes, cd_LongBoats_steer, cd_LongBoats_odds, cd_LongBoats_ends, cd_LongBoats_lasts, cd_LongBoats_best, cd_LongBoats_oars, cd_LongBoats_heavy, cd_LongBoats_even, cd_LongBoats_game, cd_LongBoats_reply, cd_LongBoats_safe, cd_LongBoats_rests, cd_LongBoats_rest, cd_LongBoats_vain, cd_LongBoats_match, cd_LongBoats_passed, cd_LongBoats_led, cd_LongBoats_wins, cd_LongBoats_order, cd_LongBoats_bold, cd_LongBoats_sure, cd_LongBoats_pillar, cd_LongBoats_swap, cd_LongBoats_train, cd_LongBoats_mend, cd_LongBoats_rule, cd_LongBoats_judge, cd_LongBoats_needed, cd_LongBoats_gaps, cd_LongBoats_himself, cd_LongBoats_odd, cd_LongBoats_wave, cd_LongBoats_calm, cd_LongBoats_champion, cd_LongBoats_beaten]
def z_cds1 : List (List (Nat × Nat × Instr)) := [cd_LongBoats_ring, cd_LongBoats_margin, cd_LongBoats_feared, cd_LongBoats_weary, cd_LongBoats_part, cd_LongBoats_drawn, cd_LongBoats_years, cd_LongBoats_day, cd_LongBoats_count, cd_LongBoats_image, cd_LongBoats_back, cd_LongBoats_row, cd_LongBoats_write, cd_LongBoats_paste, cd_LongBoats_within, cd_LongBoats_isChoice, cd_LongBoats_faces, cd_LongBoats_meets, cd_LongBoats_lastPass, cd_LongBoats_ordersOf, cd_LongBoats_firstFate, cd_LongBoats_hasOut, cd_LongBoats_closesRing, cd_LongBoats_edgeWays, cd_LongBoats_otherWays, cd_LongBoats_power, cd_LongBoats_lowest, cd_LongBoats_pictureFault, cd_LongBoats_showPicture, cd_LongBoats_gapBits, cd_LongBoats_isSure, cd_Model_init, cd_Model_in, cd_Model_image, cd_Model_back, cd_Model_isHarbour, cd_Model_isBoat, cd_Model_isMan, cd_Model_isTeam, cd_Model_of, cd_Model_set, cd_Model_oarsOf, cd_Model_slipOf, cd_Model_boatOf, cd_Model_manyOf, cd_Model_memberOf, cd_Model_feed, cd_Model_end, cd_Model_see, cd_Model_advance]
def z_cds2 : List (List (Nat × Nat × Instr)) := [cd_Model_good, cd_Model_errs, cd_Model_is, cd_Model_takes, cd_Model_needs, cd_Model_number, cd_Model_told, cd_Model_fault, cd_Model_readMan, cd_Model_readTeam, cd_Model_readReach, cd_Model_readNext, cd_Model_readLine, cd_Model_harbour, cd_Model_speedOf, cd_Model_forceOf, cd_Model_standsOf, cd_Model_isThrustOff, cd_Model_whyOf, cd_Model_resultOf, cd_Model_man, cd_Model_boat, cd_Model_team, cd_Model_speed, cd_Model_arePasses, cd_Model_force, cd_Model_areSo, cd_Model_stands, cd_Model_pass, cd_Model_why, cd_Model_draw, cd_Model_slipDrawn, cd_Model_goes, cd_Model_bout, cd_Model_pairsOf, cd_Model_kindOf, cd_Model_comingOf, cd_Model_divisor, cd_Model_part_0, cd_Model_comes, cd_Model_steer, cd_Model_resultsOf, cd_Model_gainOf, cd_Model_odds, cd_Model_power, cd_Model_ends, cd_Model_lasts, cd_Model_choose, cd_Model_lay, cd_Model_best]
def z_cds3 : List (List (Nat × Nat × Instr)) := [cd_Model_oars, cd_Model_heavy, cd_Model_even, cd_Model_isChoice, cd_Model_gameOf, cd_Model_game, cd_Model_replyTo, cd_Model_bestTo, cd_Model_reply, cd_Model_safe, cd_Model_isRest, cd_Model_rests, cd_Model_rest, cd_Model_isVain, cd_Model_vain, cd_Model_plays, cd_Model_layRows, cd_Model_areTeams, cd_Model_playsAsTold, cd_Model_ofMatch, cd_Model_match, cd_Model_isIn, cd_Model_passed, cd_Model_led, cd_Model_sort, cd_Model_nextOrder, cd_Model_trade, cd_Model_worth, cd_Model_ordersOf, cd_Model_wins, cd_Model_order, cd_Model_beatenOrders, cd_Model_boldOf, cd_Model_bold, cd_Model_ordersMany, cd_Model_sure, cd_Model_pillar, cd_Model_swap, cd_Model_isPart, cd_Model_train, cd_Model_mend, cd_Model_rule, cd_Model_edgeMen, cd_Model_tellsOf, cd_Model_judge, cd_Model_needed, cd_Model_numberAt, cd_Model_asksPictures, cd_Model_isSo, cd_Model_gapsOf]
def z_cds4 : List (List (Nat × Nat × Instr)) := [cd_Model_gaps, cd_Model_himself, cd_Model_odd, cd_Model_wave, cd_Model_calm, cd_Model_firstPass, cd_Model_champion, cd_Model_beaten, cd_Model_hasOut, cd_Model_ring, cd_Model_marginOf, cd_Model_margin, cd_Model_feared, cd_Model_weary, cd_Model_part_1, cd_Model_isSeed, cd_Model_goesDrawn, cd_Model_drawn, cd_Model_years, cd_Model_day, cd_Model_count, cd_Model_isSlot, cd_Model_cut, cd_Model_row, cd_Model_write, cd_Model_paste, cd_Contest_init, cd_Contest_lineUp, cd_Contest_leaveOut, cd_Contest_run, cd_Contest_fight, cd_Contest_note, cd_Contest_logged, cd_Contest_score, cd_Contest_outcome, cd_Contest_winningOrders, cd_Contest_findBest, cd_Contest_findBold, cd_Contest_beatenOrders, cd_Contest_beatenByComing, cd_Contest_sortFirsts, cd_Contest_exchange, cd_Contest_nextOrder, cd_Draws_init, cd_Draws_start, cd_Draws_slip, cd_Duel_init, cd_Duel_place, cd_Duel_drawFrom, cd_Duel_kindOf]
def z_cds5 : List (List (Nat × Nat × Instr)) := [cd_Duel_fateOf, cd_Duel_fateOfOne, cd_Duel_resultOf, cd_Duel_runBout, cd_Duel_drawnGap, cd_Duel_allPairs, cd_Duel_countSlips, cd_Duel_pairsOf, cd_Duel_gainBy, cd_Duel_gain, cd_Fighter_init, cd_Fighter_load, cd_Fighter_choose, cd_Fighter_thrust, cd_Fighter_hold, cd_Grid_init, cd_Grid_fillFrom, cd_Grid_at, cd_Grid_worstReply, cd_Grid_bestChoice, cd_Grid_safeChoice, cd_Grid_safeReply, cd_Grid_isRest, cd_Grid_isVain, cd_Grid_isBeatenBy, cd_Harbour_init, cd_Harbour_clear, cd_Harbour_copyFrom, cd_Harbour_hasBoat, cd_Harbour_hasBoats, cd_Harbour_hasMan, cd_Harbour_hasTeam, cd_Harbour_gear, cd_Harbour_setGear, cd_Harbour_gearFits, cd_Harbour_trait, cd_Harbour_setTrait, cd_Harbour_leastTrait, cd_Harbour_mostTrait, cd_Harbour_traitFits, cd_Harbour_menWhoAim, cd_Harbour_boatOf, cd_Harbour_setBoatOf, cd_Harbour_sizeOf, cd_Harbour_mate, cd_Harbour_setMate, cd_Harbour_addMate, cd_Harbour_isMate, cd_Harbour_speedOf, cd_Harbour_speedWith]
def z_cds6 : List (List (Nat × Nat × Instr)) := [cd_Reader_init, cd_Reader_reads, cd_Reader_readLine, cd_Reader_readHarbour, cd_Reader_readReach, cd_Reader_readBoat, cd_Reader_readMan, cd_Reader_readTrait, cd_Reader_aim, cd_Reader_readTeam, cd_Reader_readMate, cd_Reader_fail, cd_Reader_word, cd_Reader_sign, cd_Reader_number, cd_Reader_isWord, cd_Reader_nextToken, cd_Reader_isBlank, cd_Reader_isLetter, cd_Reader_isDigit, cd_Row_init, cd_Row_at, cd_Row_set, cd_Row_fill, cd_Row_copyFrom, cd_Shelf_init, cd_Shelf_isSlot, cd_Shelf_hasRow, cd_Shelf_size, cd_Shelf_width, cd_Shelf_rows, cd_Shelf_lay, cd_Shelf_isPlace, cd_Shelf_at, cd_Shelf_set, cd_Shelf_cutTo, cd_Shelf_copyOver, cd_Tape_init, cd_Tape_length, cd_Tape_isFull, cd_Tape_cut, cd_Tape_at, cd_Tape_put, cd_Law_law]
def z_cdd : List (List (List (Nat × Nat × Instr))) := [z_cds0, z_cds1, z_cds2, z_cds3, z_cds4, z_cds5, z_cds6]
def z_cd (k : Nat) : List (Nat × Nat × Instr) := (z_cdd.getD (k / 50) []).getD (k % 50) []
def z_mls : List Nat := [1, 6, 2, 2, 2, 3, 3, 3, 3, 5, 6, 7, 7, 6, 6, 9, 7, 14, 13, 9, 9, 6, 9, 7, 6, 7, 7, 7, 7, 4, 4, 5, 3, 4, 5, 3, 6, 5, 5, 5, 4, 8, 3, 3, 7, 4, 3, 3, 8, 6, 6, 6, 8, 7, 6, 7, 10, 5, 2, 3, 3, 4, 5, 6, 3, 1, 5, 4, 1, 3, 5, 5, 6, 3, 3, 5, 12, 9, 3, 5, 7, 1, 6, 3, 3, 1, 2, 3, 2, 3, 4, 2, 2, 2, 2, 3, 7, 2, 2, 2, 1, 2, 4, 3, 2, 4, 4, 2, 2, 6, 3, 3, 1, 2, 3, 5, 6, 6, 7, 7, 3, 3, 3, 3, 1, 5, 5, 6, 7, 7, 2, 2, 9, 6, 3, 2, 8, 10, 5, 6, 8, 11, 5, 7, 6, 15, 14, 3, 11, 11, 10, 8, 10, 1, 3, 7, 4, 4, 6, 9, 3, 8, 8, 5, 8, 8, 4, 5, 3, 2, 4, 4, 4, 5, 5, 6, 4, 1, 4, 3, 4, 4, 5, 4, 3, 3, 7, 4, 2, 5, 5, 6, 3, 10, 8, 3, 3, 4, 4, 6, 3, 9, 4, 3, 4, 5, 8, 6, 5, 7, 6, 6, 7, 6, 7, 1, 7, 7, 10, 5, 4, 1, 4, 5, 5, 7, 3, 4, 3, 5, 5, 3, 3, 1, 2, 4, 4, 5, 8, 8, 3, 4, 5, 1, 2, 3, 1, 4, 2, 2, 6, 4, 6, 4, 3, 1, 5, 5, 1, 3, 1, 3, 2, 5, 6, 1, 4, 3, 4, 4, 4, 4, 3, 3, 5, 1, 1, 2, 2, 3, 2, 2, 3, 4, 2, 3, 4, 1, 1, 2, 4, 2, 3, 2, 3, 4, 4, 4, 3, 5, 3, 2, 1, 1, 1, 1, 1, 3, 2, 2, 4, 2, 2, 1, 4, 3, 1, 1, 1, 1, 2, 2, 3, 3, 3, 1, 1, 2, 2, 2, 3, 5, 2, 3, 5, 3, 9, 1, 1, 1, 2, 2, 3, 4]
def z_ml (k : Nat) : Nat := z_mls.getD k 0
def z_y0 : List (MethodName) := [⟨"LongBoats", "<init>", "()V"⟩, ⟨"LongBoats", "feed", "(IIIII)I"⟩, ⟨"LongBoats", "end", "(I)I"⟩, ⟨"LongBoats", "harbour", "()I"⟩, ⟨"LongBoats", "fault", "(I)I"⟩, ⟨"LongBoats", "man", "(II)I"⟩, ⟨"LongBoats", "boat", "(II)I"⟩, ⟨"LongBoats", "team", "(II)I"⟩, ⟨"LongBoats", "speed", "(II)I"⟩, ⟨"LongBoats", "force", "(IIII)I"⟩, ⟨"LongBoats", "stands", "(IIIII)I"⟩, ⟨"LongBoats", "pass", "(IIIIII)I"⟩, ⟨"LongBoats", "why", "(IIIIII)I"⟩, ⟨"LongBoats", "bout", "(IIIII)I"⟩, ⟨"LongBoats", "comes", "(IIIII)I"⟩, ⟨"LongBoats", "steer", "(IIII)I"⟩, ⟨"LongBoats", "odds", "(IIIIII)I"⟩, ⟨"LongBoats", "ends", "(IIIIII)J"⟩, ⟨"LongBoats", "lasts", "(IIIII)J"⟩, ⟨"LongBoats", "best", "(IIII)I"⟩, ⟨"LongBoats", "oars", "(IIII)I"⟩, ⟨"LongBoats", "heavy", "(IIII)I"⟩, ⟨"LongBoats", "even", "(IIIII)I"⟩, ⟨"LongBoats", "game", "(IIIIII)I"⟩, ⟨"LongBoats", "reply", "(IIIII)I"⟩, ⟨"LongBoats", "safe", "(IIIII)I"⟩, ⟨"LongBoats", "rests", "(IIII)I"⟩, ⟨"LongBoats", "rest", "(IIIII)I"⟩, ⟨"LongBoats", "vain", "(IIII)I"⟩, ⟨"LongBoats", "match", "(III)I"⟩, ⟨"LongBoats", "passed", "(III)I"⟩, ⟨"LongBoats", "led", "(IIII)I"⟩, ⟨"LongBoats", "wins", "(II)I"⟩, ⟨"LongBoats", "order", "(III)I"⟩, ⟨"LongBoats", "bold", "(III)I"⟩, ⟨"LongBoats", "sure", "(II)I"⟩, ⟨"LongBoats", "pillar", "(II)I"⟩, ⟨"LongBoats", "swap", "(III)I"⟩, ⟨"LongBoats", "train", "(III)I"⟩, ⟨"LongBoats", "mend", "(III)I"⟩, ⟨"LongBoats", "rule", "(II)I"⟩, ⟨"LongBoats", "judge", "(III)J"⟩, ⟨"LongBoats", "needed", "(I)I"⟩, ⟨"LongBoats", "gaps", "(I)I"⟩, ⟨"LongBoats", "himself", "(II)I"⟩, ⟨"LongBoats", "odd", "(I)I"⟩, ⟨"LongBoats", "wave", "(II)I"⟩, ⟨"LongBoats", "calm", "(II)I"⟩, ⟨"LongBoats", "champion", "(II)I"⟩, ⟨"LongBoats", "beaten", "(III)I"⟩]
def z_y1 : List (MethodName) := [⟨"LongBoats", "ring", "(II)I"⟩, ⟨"LongBoats", "margin", "(IIIII)I"⟩, ⟨"LongBoats", "feared", "(III)I"⟩, ⟨"LongBoats", "weary", "(IIII)I"⟩, ⟨"LongBoats", "part", "(IIII)I"⟩, ⟨"LongBoats", "drawn", "(IIIIII)I"⟩, ⟨"LongBoats", "years", "(IIIIIII)I"⟩, ⟨"LongBoats", "day", "(IIII)I"⟩, ⟨"LongBoats", "count", "(I)I"⟩, ⟨"LongBoats", "image", "(I)I"⟩, ⟨"LongBoats", "back", "(I)I"⟩, ⟨"LongBoats", "row", "(III)I"⟩, ⟨"LongBoats", "write", "(IIJ)I"⟩, ⟨"LongBoats", "paste", "(IIIII)I"⟩, ⟨"LongBoats", "within", "(III)Z"⟩, ⟨"LongBoats", "isChoice", "(I)Z"⟩, ⟨"LongBoats", "faces", "(IIII)Z"⟩, ⟨"LongBoats", "meets", "(II)Z"⟩, ⟨"LongBoats", "lastPass", "()I"⟩, ⟨"LongBoats", "ordersOf", "(I)I"⟩, ⟨"LongBoats", "firstFate", "(IIII)I"⟩, ⟨"LongBoats", "hasOut", "(IIII)Z"⟩, ⟨"LongBoats", "closesRing", "(IIII)I"⟩, ⟨"LongBoats", "edgeWays", "(II)J"⟩, ⟨"LongBoats", "otherWays", "(II)J"⟩, ⟨"LongBoats", "power", "(II)J"⟩, ⟨"LongBoats", "lowest", "(JJI)J"⟩, ⟨"LongBoats", "pictureFault", "(I)I"⟩, ⟨"LongBoats", "showPicture", "(II)V"⟩, ⟨"LongBoats", "gapBits", "(I)I"⟩, ⟨"LongBoats", "isSure", "(IIII)Z"⟩, ⟨"LongBoatsModel", "<init>", "()V"⟩, ⟨"LongBoatsModel", "in", "(JJJ)Z"⟩, ⟨"LongBoatsModel", "image", "(I)I"⟩, ⟨"LongBoatsModel", "back", "(I)I"⟩, ⟨"LongBoatsModel", "isHarbour", "()Z"⟩, ⟨"LongBoatsModel", "isBoat", "(I)Z"⟩, ⟨"LongBoatsModel", "isMan", "(J)Z"⟩, ⟨"LongBoatsModel", "isTeam", "(I)Z"⟩, ⟨"LongBoatsModel", "of", "(II)I"⟩, ⟨"LongBoatsModel", "set", "(III)V"⟩, ⟨"LongBoatsModel", "oarsOf", "(I)I"⟩, ⟨"LongBoatsModel", "slipOf", "(I)I"⟩, ⟨"LongBoatsModel", "boatOf", "(I)I"⟩, ⟨"LongBoatsModel", "manyOf", "(I)I"⟩, ⟨"LongBoatsModel", "memberOf", "(II)I"⟩, ⟨"LongBoatsModel", "feed", "(IIIII)I"⟩, ⟨"LongBoatsModel", "end", "(I)I"⟩, ⟨"LongBoatsModel", "see", "(I)I"⟩, ⟨"LongBoatsModel", "advance", "()V"⟩]
def z_y2 : List (MethodName) := [⟨"LongBoatsModel", "good", "()Z"⟩, ⟨"LongBoatsModel", "errs", "(I)V"⟩, ⟨"LongBoatsModel", "is", "(Ljava/lang/String;)Z"⟩, ⟨"LongBoatsModel", "takes", "(Ljava/lang/String;)Z"⟩, ⟨"LongBoatsModel", "needs", "(Ljava/lang/String;)V"⟩, ⟨"LongBoatsModel", "number", "(II)I"⟩, ⟨"LongBoatsModel", "told", "(Ljava/lang/String;II)I"⟩, ⟨"LongBoatsModel", "fault", "(I)I"⟩, ⟨"LongBoatsModel", "readMan", "()V"⟩, ⟨"LongBoatsModel", "readTeam", "()V"⟩, ⟨"LongBoatsModel", "readReach", "()V"⟩, ⟨"LongBoatsModel", "readNext", "()V"⟩, ⟨"LongBoatsModel", "readLine", "()V"⟩, ⟨"LongBoatsModel", "harbour", "()I"⟩, ⟨"LongBoatsModel", "speedOf", "(II)I"⟩, ⟨"LongBoatsModel", "forceOf", "(III)I"⟩, ⟨"LongBoatsModel", "standsOf", "(IIII)I"⟩, ⟨"LongBoatsModel", "isThrustOff", "(IIIII)Z"⟩, ⟨"LongBoatsModel", "whyOf", "(IIIIII)I"⟩, ⟨"LongBoatsModel", "resultOf", "(IIIIII)I"⟩, ⟨"LongBoatsModel", "man", "(II)I"⟩, ⟨"LongBoatsModel", "boat", "(II)I"⟩, ⟨"LongBoatsModel", "team", "(II)I"⟩, ⟨"LongBoatsModel", "speed", "(II)I"⟩, ⟨"LongBoatsModel", "arePasses", "(I)Z"⟩, ⟨"LongBoatsModel", "force", "(IIII)I"⟩, ⟨"LongBoatsModel", "areSo", "(IIII)Z"⟩, ⟨"LongBoatsModel", "stands", "(IIIII)I"⟩, ⟨"LongBoatsModel", "pass", "(IIIIII)I"⟩, ⟨"LongBoatsModel", "why", "(IIIIII)I"⟩, ⟨"LongBoatsModel", "draw", "(I)I"⟩, ⟨"LongBoatsModel", "slipDrawn", "(I)I"⟩, ⟨"LongBoatsModel", "goes", "(IIIIIIZ)V"⟩, ⟨"LongBoatsModel", "bout", "(IIIII)I"⟩, ⟨"LongBoatsModel", "pairsOf", "(II)I"⟩, ⟨"LongBoatsModel", "kindOf", "(I)I"⟩, ⟨"LongBoatsModel", "comingOf", "(IIII)I"⟩, ⟨"LongBoatsModel", "divisor", "(JJ)J"⟩, ⟨"LongBoatsModel", "part", "(JJI)J"⟩, ⟨"LongBoatsModel", "comes", "(IIIII)I"⟩, ⟨"LongBoatsModel", "steer", "(IIII)I"⟩, ⟨"LongBoatsModel", "resultsOf", "(IIIIII)I"⟩, ⟨"LongBoatsModel", "gainOf", "(IIII)I"⟩, ⟨"LongBoatsModel", "odds", "(IIIIII)I"⟩, ⟨"LongBoatsModel", "power", "(JI)J"⟩, ⟨"LongBoatsModel", "ends", "(IIIIII)J"⟩, ⟨"LongBoatsModel", "lasts", "(IIIII)J"⟩, ⟨"LongBoatsModel", "choose", "(II)V"⟩, ⟨"LongBoatsModel", "lay", "(IIII)V"⟩, ⟨"LongBoatsModel", "best", "(IIII)I"⟩]
def z_y3 : List (MethodName) := [⟨"LongBoatsModel", "oars", "(IIII)I"⟩, ⟨"LongBoatsModel", "heavy", "(IIII)I"⟩, ⟨"LongBoatsModel", "even", "(IIIII)I"⟩, ⟨"LongBoatsModel", "isChoice", "(I)Z"⟩, ⟨"LongBoatsModel", "gameOf", "(II)I"⟩, ⟨"LongBoatsModel", "game", "(IIIIII)I"⟩, ⟨"LongBoatsModel", "replyTo", "(I)I"⟩, ⟨"LongBoatsModel", "bestTo", "(I)I"⟩, ⟨"LongBoatsModel", "reply", "(IIIII)I"⟩, ⟨"LongBoatsModel", "safe", "(IIIII)I"⟩, ⟨"LongBoatsModel", "isRest", "(II)Z"⟩, ⟨"LongBoatsModel", "rests", "(IIII)I"⟩, ⟨"LongBoatsModel", "rest", "(IIIII)I"⟩, ⟨"LongBoatsModel", "isVain", "(II)Z"⟩, ⟨"LongBoatsModel", "vain", "(IIII)I"⟩, ⟨"LongBoatsModel", "plays", "(IIZ)V"⟩, ⟨"LongBoatsModel", "layRows", "(II)V"⟩, ⟨"LongBoatsModel", "areTeams", "(II)Z"⟩, ⟨"LongBoatsModel", "playsAsTold", "(II)V"⟩, ⟨"LongBoatsModel", "ofMatch", "(I)I"⟩, ⟨"LongBoatsModel", "match", "(III)I"⟩, ⟨"LongBoatsModel", "isIn", "(II)Z"⟩, ⟨"LongBoatsModel", "passed", "(III)I"⟩, ⟨"LongBoatsModel", "led", "(IIII)I"⟩, ⟨"LongBoatsModel", "sort", "([II)V"⟩, ⟨"LongBoatsModel", "nextOrder", "([II)Z"⟩, ⟨"LongBoatsModel", "trade", "([III)V"⟩, ⟨"LongBoatsModel", "worth", "()I"⟩, ⟨"LongBoatsModel", "ordersOf", "(II)V"⟩, ⟨"LongBoatsModel", "wins", "(II)I"⟩, ⟨"LongBoatsModel", "order", "(III)I"⟩, ⟨"LongBoatsModel", "beatenOrders", "(II)I"⟩, ⟨"LongBoatsModel", "boldOf", "(II)V"⟩, ⟨"LongBoatsModel", "bold", "(III)I"⟩, ⟨"LongBoatsModel", "ordersMany", "(I)I"⟩, ⟨"LongBoatsModel", "sure", "(II)I"⟩, ⟨"LongBoatsModel", "pillar", "(II)I"⟩, ⟨"LongBoatsModel", "swap", "(III)I"⟩, ⟨"LongBoatsModel", "isPart", "(II)Z"⟩, ⟨"LongBoatsModel", "train", "(III)I"⟩, ⟨"LongBoatsModel", "mend", "(III)I"⟩, ⟨"LongBoatsModel", "rule", "(II)I"⟩, ⟨"LongBoatsModel", "edgeMen", "()I"⟩, ⟨"LongBoatsModel", "tellsOf", "(IIZ)J"⟩, ⟨"LongBoatsModel", "judge", "(III)J"⟩, ⟨"LongBoatsModel", "needed", "(I)I"⟩, ⟨"LongBoatsModel", "numberAt", "(II)J"⟩, ⟨"LongBoatsModel", "asksPictures", "(IZ)I"⟩, ⟨"LongBoatsModel", "isSo", "(III)Z"⟩, ⟨"LongBoatsModel", "gapsOf", "(I)I"⟩]
def z_y4 : List (MethodName) := [⟨"LongBoatsModel", "gaps", "(I)I"⟩, ⟨"LongBoatsModel", "himself", "(II)I"⟩, ⟨"LongBoatsModel", "odd", "(I)I"⟩, ⟨"LongBoatsModel", "wave", "(II)I"⟩, ⟨"LongBoatsModel", "calm", "(II)I"⟩, ⟨"LongBoatsModel", "firstPass", "(IIII)I"⟩, ⟨"LongBoatsModel", "champion", "(II)I"⟩, ⟨"LongBoatsModel", "beaten", "(III)I"⟩, ⟨"LongBoatsModel", "hasOut", "(IIII)Z"⟩, ⟨"LongBoatsModel", "ring", "(II)I"⟩, ⟨"LongBoatsModel", "marginOf", "(IIIII)I"⟩, ⟨"LongBoatsModel", "margin", "(IIIII)I"⟩, ⟨"LongBoatsModel", "feared", "(III)I"⟩, ⟨"LongBoatsModel", "weary", "(IIII)I"⟩, ⟨"LongBoatsModel", "part", "(IIII)I"⟩, ⟨"LongBoatsModel", "isSeed", "(I)Z"⟩, ⟨"LongBoatsModel", "goesDrawn", "(JIIII)V"⟩, ⟨"LongBoatsModel", "drawn", "(IIIIII)I"⟩, ⟨"LongBoatsModel", "years", "(IIIIIII)I"⟩, ⟨"LongBoatsModel", "day", "(IIII)I"⟩, ⟨"LongBoatsModel", "count", "(I)I"⟩, ⟨"LongBoatsModel", "isSlot", "(I)Z"⟩, ⟨"LongBoatsModel", "cut", "(JI)J"⟩, ⟨"LongBoatsModel", "row", "(III)I"⟩, ⟨"LongBoatsModel", "write", "(IIJ)I"⟩, ⟨"LongBoatsModel", "paste", "(IIIII)I"⟩, ⟨"LongBoats$Contest", "<init>", "(LLongBoats$Harbour;LLongBoats$Duel;)V"⟩, ⟨"LongBoats$Contest", "lineUp", "(II)V"⟩, ⟨"LongBoats$Contest", "leaveOut", "(I)V"⟩, ⟨"LongBoats$Contest", "run", "()V"⟩, ⟨"LongBoats$Contest", "fight", "(IIII)V"⟩, ⟨"LongBoats$Contest", "note", "(II)V"⟩, ⟨"LongBoats$Contest", "logged", "(II)I"⟩, ⟨"LongBoats$Contest", "score", "()I"⟩, ⟨"LongBoats$Contest", "outcome", "(I)I"⟩, ⟨"LongBoats$Contest", "winningOrders", "()I"⟩, ⟨"LongBoats$Contest", "findBest", "()V"⟩, ⟨"LongBoats$Contest", "findBold", "()I"⟩, ⟨"LongBoats$Contest", "beatenOrders", "(IIIIII)I"⟩, ⟨"LongBoats$Contest", "beatenByComing", "(IIII)I"⟩, ⟨"LongBoats$Contest", "sortFirsts", "()V"⟩, ⟨"LongBoats$Contest", "exchange", "(II)V"⟩, ⟨"LongBoats$Contest", "nextOrder", "()Z"⟩, ⟨"LongBoats$Draws", "<init>", "()V"⟩, ⟨"LongBoats$Draws", "start", "(I)V"⟩, ⟨"LongBoats$Draws", "slip", "(I)I"⟩, ⟨"LongBoats$Duel", "<init>", "()V"⟩, ⟨"LongBoats$Duel", "place", "(LLongBoats$Harbour;II)V"⟩, ⟨"LongBoats$Duel", "drawFrom", "(I)V"⟩, ⟨"LongBoats$Duel", "kindOf", "(I)I"⟩]
def z_y5 : List (MethodName) := [⟨"LongBoats$Duel", "fateOf", "(ILLongBoats$Fighter;ILLongBoats$Fighter;I)I"⟩, ⟨"LongBoats$Duel", "fateOfOne", "(III)I"⟩, ⟨"LongBoats$Duel", "resultOf", "(III)I"⟩, ⟨"LongBoats$Duel", "runBout", "(II)V"⟩, ⟨"LongBoats$Duel", "drawnGap", "()I"⟩, ⟨"LongBoats$Duel", "allPairs", "()I"⟩, ⟨"LongBoats$Duel", "countSlips", "(I)V"⟩, ⟨"LongBoats$Duel", "pairsOf", "(II)I"⟩, ⟨"LongBoats$Duel", "gainBy", "(I)I"⟩, ⟨"LongBoats$Duel", "gain", "()I"⟩, ⟨"LongBoats$Fighter", "<init>", "()V"⟩, ⟨"LongBoats$Fighter", "load", "(LLongBoats$Harbour;I)V"⟩, ⟨"LongBoats$Fighter", "choose", "(I)V"⟩, ⟨"LongBoats$Fighter", "thrust", "(II)I"⟩, ⟨"LongBoats$Fighter", "hold", "(III)I"⟩, ⟨"LongBoats$Grid", "<init>", "()V"⟩, ⟨"LongBoats$Grid", "fillFrom", "(LLongBoats$Duel;)V"⟩, ⟨"LongBoats$Grid", "at", "(II)I"⟩, ⟨"LongBoats$Grid", "worstReply", "(I)I"⟩, ⟨"LongBoats$Grid", "bestChoice", "(I)I"⟩, ⟨"LongBoats$Grid", "safeChoice", "()I"⟩, ⟨"LongBoats$Grid", "safeReply", "()I"⟩, ⟨"LongBoats$Grid", "isRest", "(II)Z"⟩, ⟨"LongBoats$Grid", "isVain", "(I)Z"⟩, ⟨"LongBoats$Grid", "isBeatenBy", "(II)Z"⟩, ⟨"LongBoats$Harbour", "<init>", "()V"⟩, ⟨"LongBoats$Harbour", "clear", "()V"⟩, ⟨"LongBoats$Harbour", "copyFrom", "(LLongBoats$Harbour;)V"⟩, ⟨"LongBoats$Harbour", "hasBoat", "(I)Z"⟩, ⟨"LongBoats$Harbour", "hasBoats", "(II)Z"⟩, ⟨"LongBoats$Harbour", "hasMan", "(I)Z"⟩, ⟨"LongBoats$Harbour", "hasTeam", "(I)Z"⟩, ⟨"LongBoats$Harbour", "gear", "(II)I"⟩, ⟨"LongBoats$Harbour", "setGear", "(III)V"⟩, ⟨"LongBoats$Harbour", "gearFits", "(II)Z"⟩, ⟨"LongBoats$Harbour", "trait", "(II)I"⟩, ⟨"LongBoats$Harbour", "setTrait", "(III)V"⟩, ⟨"LongBoats$Harbour", "leastTrait", "(I)I"⟩, ⟨"LongBoats$Harbour", "mostTrait", "(I)I"⟩, ⟨"LongBoats$Harbour", "traitFits", "(II)Z"⟩, ⟨"LongBoats$Harbour", "menWhoAim", "(I)I"⟩, ⟨"LongBoats$Harbour", "boatOf", "(I)I"⟩, ⟨"LongBoats$Harbour", "setBoatOf", "(II)V"⟩, ⟨"LongBoats$Harbour", "sizeOf", "(I)I"⟩, ⟨"LongBoats$Harbour", "mate", "(II)I"⟩, ⟨"LongBoats$Harbour", "setMate", "(III)V"⟩, ⟨"LongBoats$Harbour", "addMate", "(II)V"⟩, ⟨"LongBoats$Harbour", "isMate", "(II)Z"⟩, ⟨"LongBoats$Harbour", "speedOf", "(II)I"⟩, ⟨"LongBoats$Harbour", "speedWith", "(III)I"⟩]
def z_y6 : List (MethodName) := [⟨"LongBoats$Reader", "<init>", "(LLongBoats$Tape;LLongBoats$Harbour;)V"⟩, ⟨"LongBoats$Reader", "reads", "()Z"⟩, ⟨"LongBoats$Reader", "readLine", "()V"⟩, ⟨"LongBoats$Reader", "readHarbour", "()V"⟩, ⟨"LongBoats$Reader", "readReach", "()V"⟩, ⟨"LongBoats$Reader", "readBoat", "()V"⟩, ⟨"LongBoats$Reader", "readMan", "()V"⟩, ⟨"LongBoats$Reader", "readTrait", "(Ljava/lang/String;I)V"⟩, ⟨"LongBoats$Reader", "aim", "()I"⟩, ⟨"LongBoats$Reader", "readTeam", "()V"⟩, ⟨"LongBoats$Reader", "readMate", "()V"⟩, ⟨"LongBoats$Reader", "fail", "(I)V"⟩, ⟨"LongBoats$Reader", "word", "(Ljava/lang/String;)V"⟩, ⟨"LongBoats$Reader", "sign", "()V"⟩, ⟨"LongBoats$Reader", "number", "(II)I"⟩, ⟨"LongBoats$Reader", "isWord", "(Ljava/lang/String;)Z"⟩, ⟨"LongBoats$Reader", "nextToken", "()V"⟩, ⟨"LongBoats$Reader", "isBlank", "(I)Z"⟩, ⟨"LongBoats$Reader", "isLetter", "(I)Z"⟩, ⟨"LongBoats$Reader", "isDigit", "(I)Z"⟩, ⟨"LongBoats$Row", "<init>", "(I)V"⟩, ⟨"LongBoats$Row", "at", "(I)I"⟩, ⟨"LongBoats$Row", "set", "(II)V"⟩, ⟨"LongBoats$Row", "fill", "(I)V"⟩, ⟨"LongBoats$Row", "copyFrom", "(LLongBoats$Row;)V"⟩, ⟨"LongBoats$Shelf", "<init>", "()V"⟩, ⟨"LongBoats$Shelf", "isSlot", "(I)Z"⟩, ⟨"LongBoats$Shelf", "hasRow", "(I)Z"⟩, ⟨"LongBoats$Shelf", "size", "(I)I"⟩, ⟨"LongBoats$Shelf", "width", "(I)I"⟩, ⟨"LongBoats$Shelf", "rows", "()I"⟩, ⟨"LongBoats$Shelf", "lay", "(III)V"⟩, ⟨"LongBoats$Shelf", "isPlace", "(II)Z"⟩, ⟨"LongBoats$Shelf", "at", "(II)J"⟩, ⟨"LongBoats$Shelf", "set", "(IIJ)V"⟩, ⟨"LongBoats$Shelf", "cutTo", "(IJ)J"⟩, ⟨"LongBoats$Shelf", "copyOver", "(IIIII)V"⟩, ⟨"LongBoats$Tape", "<init>", "()V"⟩, ⟨"LongBoats$Tape", "length", "()I"⟩, ⟨"LongBoats$Tape", "isFull", "()Z"⟩, ⟨"LongBoats$Tape", "cut", "(I)V"⟩, ⟨"LongBoats$Tape", "at", "(I)I"⟩, ⟨"LongBoats$Tape", "put", "(I)V"⟩, ⟨"LongBoatsLaw", "law", "([I)Z"⟩]
def z_yd : List (List (MethodName)) := [z_y0, z_y1, z_y2, z_y3, z_y4, z_y5, z_y6]
def z_y (k : Nat) : MethodName := (z_yd.getD (k / 50) []).getD (k % 50) ⟨"", "", ""⟩
def z_by0 : List (ByteArray) := [prog_1_method_1_code, prog_1_method_2_code, prog_1_method_3_code, prog_1_method_4_code, prog_1_method_5_code, prog_1_method_6_code, prog_1_method_7_code, prog_1_method_8_code, prog_1_method_9_code, prog_1_method_10_code, prog_1_method_11_code, prog_1_method_12_code, prog_1_method_13_code, prog_1_method_14_code, prog_1_method_15_code, prog_1_method_16_code, prog_1_method_17_code, prog_1_method_18_code, prog_1_method_19_code, prog_1_method_20_code, prog_1_method_21_code, prog_1_method_22_code, prog_1_method_23_code, prog_1_method_24_code, prog_1_method_25_code, prog_1_method_26_code, prog_1_method_27_code, prog_1_method_28_code, prog_1_method_29_code, prog_1_method_30_code, prog_1_method_31_code, prog_1_method_32_code, prog_1_method_33_code, prog_1_method_34_code, prog_1_method_35_code, prog_1_method_36_code, prog_1_method_37_code, prog_1_method_38_code, prog_1_method_39_code, prog_1_method_40_code, prog_1_method_41_code, prog_1_method_42_code, prog_1_method_43_code, prog_1_method_44_code, prog_1_method_45_code, prog_1_method_46_code, prog_1_method_47_code, prog_1_method_48_code, prog_1_method_49_code, prog_1_method_50_code]
def z_by1 : List (ByteArray) := [prog_1_method_51_code, prog_1_method_52_code, prog_1_method_53_code, prog_1_method_54_code, prog_1_method_55_code, prog_1_method_56_code, prog_1_method_57_code, prog_1_method_58_code, prog_1_method_59_code, prog_1_method_60_code, prog_1_method_61_code, prog_1_method_62_code, prog_1_method_63_code, prog_1_method_64_code, prog_1_method_65_code, prog_1_method_66_code, prog_1_method_67_code, prog_1_method_68_code, prog_1_method_69_code, prog_1_method_70_code, prog_1_method_71_code, prog_1_method_72_code, prog_1_method_73_code, prog_1_method_74_code, prog_1_method_75_code, prog_1_method_76_code, prog_1_method_77_code, prog_1_method_78_code, prog_1_method_79_code, prog_1_method_80_code, prog_1_method_81_code, prog_13_method_1_code, prog_13_method_3_code, prog_13_method_4_code, prog_13_method_5_code, prog_13_method_6_code, prog_13_method_7_code, prog_13_method_8_code, prog_13_method_9_code, prog_13_method_10_code, prog_13_method_11_code, prog_13_method_12_code, prog_13_method_13_code, prog_13_method_14_code, prog_13_method_15_code, prog_13_method_16_code, prog_13_method_17_code, prog_13_method_18_code, prog_13_method_19_code, prog_13_method_20_code]
def z_by2 : List (ByteArray) := [prog_13_method_21_code, prog_13_method_22_code, prog_13_method_23_code, prog_13_method_24_code, prog_13_method_25_code, prog_13_method_26_code, prog_13_method_27_code, prog_13_method_28_code, prog_13_method_29_code, prog_13_method_30_code, prog_13_method_31_code, prog_13_method_32_code, prog_13_method_33_code, prog_13_method_34_code, prog_13_method_35_code, prog_13_method_36_code, prog_13_method_37_code, prog_13_method_38_code, prog_13_method_39_code, prog_13_method_40_code, prog_13_method_41_code, prog_13_method_42_code, prog_13_method_43_code, prog_13_method_44_code, prog_13_method_45_code, prog_13_method_46_code, prog_13_method_47_code, prog_13_method_48_code, prog_13_method_49_code, prog_13_method_50_code, prog_13_method_51_code, prog_13_method_52_code, prog_13_method_53_code, prog_13_method_54_code, prog_13_method_55_code, prog_13_method_56_code, prog_13_method_57_code, prog_13_method_58_code, prog_13_method_59_code, prog_13_method_60_code, prog_13_method_61_code, prog_13_method_62_code, prog_13_method_63_code, prog_13_method_64_code, prog_13_method_65_code, prog_13_method_66_code, prog_13_method_67_code, prog_13_method_68_code, prog_13_method_69_code, prog_13_method_70_code]
def z_by3 : List (ByteArray) := [prog_13_method_71_code, prog_13_method_72_code, prog_13_method_73_code, prog_13_method_74_code, prog_13_method_75_code, prog_13_method_76_code, prog_13_method_77_code, prog_13_method_78_code, prog_13_method_79_code, prog_13_method_80_code, prog_13_method_81_code, prog_13_method_82_code, prog_13_method_83_code, prog_13_method_84_code, prog_13_method_85_code, prog_13_method_86_code, prog_13_method_87_code, prog_13_method_88_code, prog_13_method_89_code, prog_13_method_90_code, prog_13_method_91_code, prog_13_method_92_code, prog_13_method_93_code, prog_13_method_94_code, prog_13_method_95_code, prog_13_method_96_code, prog_13_method_97_code, prog_13_method_98_code, prog_13_method_99_code, prog_13_method_100_code, prog_13_method_101_code, prog_13_method_102_code, prog_13_method_103_code, prog_13_method_104_code, prog_13_method_105_code, prog_13_method_106_code, prog_13_method_107_code, prog_13_method_108_code, prog_13_method_109_code, prog_13_method_110_code, prog_13_method_111_code, prog_13_method_112_code, prog_13_method_113_code, prog_13_method_114_code, prog_13_method_115_code, prog_13_method_116_code, prog_13_method_117_code, prog_13_method_118_code, prog_13_method_119_code, prog_13_method_120_code]
def z_by4 : List (ByteArray) := [prog_13_method_121_code, prog_13_method_122_code, prog_13_method_123_code, prog_13_method_124_code, prog_13_method_125_code, prog_13_method_126_code, prog_13_method_127_code, prog_13_method_128_code, prog_13_method_129_code, prog_13_method_130_code, prog_13_method_131_code, prog_13_method_132_code, prog_13_method_133_code, prog_13_method_134_code, prog_13_method_135_code, prog_13_method_136_code, prog_13_method_137_code, prog_13_method_138_code, prog_13_method_139_code, prog_13_method_140_code, prog_13_method_141_code, prog_13_method_142_code, prog_13_method_143_code, prog_13_method_144_code, prog_13_method_145_code, prog_13_method_146_code, prog_2_method_1_code, prog_2_method_2_code, prog_2_method_3_code, prog_2_method_4_code, prog_2_method_5_code, prog_2_method_6_code, prog_2_method_7_code, prog_2_method_8_code, prog_2_method_9_code, prog_2_method_10_code, prog_2_method_11_code, prog_2_method_12_code, prog_2_method_13_code, prog_2_method_14_code, prog_2_method_15_code, prog_2_method_16_code, prog_2_method_17_code, prog_3_method_1_code, prog_3_method_2_code, prog_3_method_3_code, prog_4_method_1_code, prog_4_method_2_code, prog_4_method_3_code, prog_4_method_4_code]
def z_by5 : List (ByteArray) := [prog_4_method_5_code, prog_4_method_6_code, prog_4_method_7_code, prog_4_method_8_code, prog_4_method_9_code, prog_4_method_10_code, prog_4_method_11_code, prog_4_method_12_code, prog_4_method_13_code, prog_4_method_14_code, prog_5_method_1_code, prog_5_method_2_code, prog_5_method_3_code, prog_5_method_4_code, prog_5_method_5_code, prog_6_method_1_code, prog_6_method_2_code, prog_6_method_3_code, prog_6_method_4_code, prog_6_method_5_code, prog_6_method_6_code, prog_6_method_7_code, prog_6_method_8_code, prog_6_method_9_code, prog_6_method_10_code, prog_7_method_1_code, prog_7_method_2_code, prog_7_method_3_code, prog_7_method_4_code, prog_7_method_5_code, prog_7_method_6_code, prog_7_method_7_code, prog_7_method_8_code, prog_7_method_9_code, prog_7_method_10_code, prog_7_method_11_code, prog_7_method_12_code, prog_7_method_13_code, prog_7_method_14_code, prog_7_method_15_code, prog_7_method_16_code, prog_7_method_17_code, prog_7_method_18_code, prog_7_method_19_code, prog_7_method_20_code, prog_7_method_21_code, prog_7_method_22_code, prog_7_method_23_code, prog_7_method_24_code, prog_7_method_25_code]
def z_by6 : List (ByteArray) := [prog_8_method_1_code, prog_8_method_2_code, prog_8_method_3_code, prog_8_method_4_code, prog_8_method_5_code, prog_8_method_6_code, prog_8_method_7_code, prog_8_method_8_code, prog_8_method_9_code, prog_8_method_10_code, prog_8_method_11_code, prog_8_method_12_code, prog_8_method_13_code, prog_8_method_14_code, prog_8_method_15_code, prog_8_method_16_code, prog_8_method_17_code, prog_8_method_18_code, prog_8_method_19_code, prog_8_method_20_code, prog_9_method_1_code, prog_9_method_2_code, prog_9_method_3_code, prog_9_method_4_code, prog_9_method_5_code, prog_10_method_1_code, prog_10_method_2_code, prog_10_method_3_code, prog_10_method_4_code, prog_10_method_5_code, prog_10_method_6_code, prog_10_method_7_code, prog_10_method_8_code, prog_10_method_9_code, prog_10_method_10_code, prog_10_method_11_code, prog_10_method_12_code, prog_11_method_1_code, prog_11_method_2_code, prog_11_method_3_code, prog_11_method_4_code, prog_11_method_5_code, prog_11_method_6_code, code]
def z_byd : List (List (ByteArray)) := [z_by0, z_by1, z_by2, z_by3, z_by4, z_by5, z_by6]
def z_by (k : Nat) : ByteArray := (z_byd.getD (k / 50) []).getD (k % 50) ⟨#[]⟩
def z_rty0 : List (Option FieldType) := [none, some .int, some .int, some .int, some .int, some .int, some .int, some .int, some .int, some .int, some .int, some .int, some .int, some .int, some .int, some .int, some .int, some .long, some .long, some .int, some .int, some .int, some .int, some .int, some .int, some .int, some .int, some .int, some .int, some .int, some .int, some .int, some .int, some .int, some .int, some .int, some .int, some .int, some .int, some .int, some .int, some .long, some .int, some .int, some .int, some .int, some .int, some .int, some .int, some .int]
def z_rty1 : List (Option FieldType) := [some .int, some .int, some .int, some .int, some .int, some .int, some .int, some .int, some .int, some .int, some .int, some .int, some .int, some .int, some .boolean, some .boolean, some .boolean, some .boolean, some .int, some .int, some .int, some .boolean, some .int, some .long, some .long, some .long, some .long, some .int, none, some .int, some .boolean, none, some .boolean, some .int, some .int, some .boolean, some .boolean, some .boolean, some .boolean, some .int, none, some .int, some .int, some .int, some .int, some .int, some .int, some .int, some .int, none]
def z_rty2 : List (Option FieldType) := [some .boolean, none, some .boolean, some .boolean, none, some .int, some .int, some .int, none, none, none, none, none, some .int, some .int, some .int, some .int, some .boolean, some .int, some .int, some .int, some .int, some .int, some .int, some .boolean, some .int, some .boolean, some .int, some .int, some .int, some .int, some .int, none, some .int, some .int, some .int, some .int, some .long, some .long, some .int, some .int, some .int, some .int, some .int, some .long, some .long, some .long, none, none, some .int]
def z_rty3 : List (Option FieldType) := [some .int, some .int, some .int, some .boolean, some .int, some .int, some .int, some .int, some .int, some .int, some .boolean, some .int, some .int, some .boolean, some .int, none, none, some .boolean, none, some .int, some .int, some .boolean, some .int, some .int, none, some .boolean, none, some .int, none, some .int, some .int, some .int, none, some .int, some .int, some .int, some .int, some .int, some .boolean, some .int, some .int, some .int, some .int, some .long, some .long, some .int, some .long, some .int, some .boolean, some .int]
def z_rty4 : List (Option FieldType) := [some .int, some .int, some .int, some .int, some .int, some .int, some .int, some .int, some .boolean, some .int, some .int, some .int, some .int, some .int, some .int, some .boolean, none, some .int, some .int, some .int, some .int, some .boolean, some .long, some .int, some .int, some .int, none, none, none, none, none, none, some .int, some .int, some .int, some .int, none, some .int, some .int, some .int, none, none, some .boolean, none, none, some .int, none, none, none, some .int]
def z_rty5 : List (Option FieldType) := [some .int, some .int, some .int, none, some .int, some .int, none, some .int, some .int, some .int, none, none, none, some .int, some .int, none, none, some .int, some .int, some .int, some .int, some .int, some .boolean, some .boolean, some .boolean, none, none, none, some .boolean, some .boolean, some .boolean, some .boolean, some .int, none, some .boolean, some .int, none, some .int, some .int, some .boolean, some .int, some .int, none, some .int, some .int, none, none, some .boolean, some .int, some .int]
def z_rty6 : List (Option FieldType) := [none, some .boolean, none, none, none, none, none, none, some .int, none, none, none, none, none, some .int, some .boolean, none, some .boolean, some .boolean, some .boolean, none, some .int, none, none, none, none, some .boolean, some .boolean, some .int, some .int, some .int, none, some .boolean, some .long, none, some .long, none, none, some .int, some .boolean, none, some .int, none, some .boolean]
def z_rtyd : List (List (Option FieldType)) := [z_rty0, z_rty1, z_rty2, z_rty3, z_rty4, z_rty5, z_rty6]
def z_rty (k : Nat) : Option FieldType := (z_rtyd.getD (k / 50) []).getD (k % 50) none
def z_stc0 : List (Bool) := [false, false, false, false, false, false, false, false, false, false, false, false, false, false, false, false, false, false, false, false, false, false, false, false, false, false, false, false, false, false, false, false, false, false, false, false, false, false, false, false, false, false, false, false, false, false, false, false, false, false]
def z_stc1 : List (Bool) := [false, false, false, false, false, false, false, false, false, false, false, false, false, false, true, true, false, false, false, true, false, false, false, false, false, true, true, false, false, false, false, false, true, false, false, false, false, false, false, false, false, false, false, false, false, false, false, false, false, false]
def z_stc2 : List (Bool) := [false, false, false, false, false, false, false, false, false, false, false, false, false, false, false, false, false, false, false, false, false, false, false, false, true, false, false, false, false, false, false, false, false, false, false, false, false, true, true, false, false, false, false, false, true, false, false, false, false, false]
def z_stc3 : List (Bool) := [false, false, false, true, false, false, false, false, false, false, false, false, false, false, false, false, false, false, false, false, false, false, false, false, true, true, true, false, false, false, false, false, false, false, true, false, false, false, true, false, false, false, false, false, false, false, false, false, false, false]
def z_stc4 : List (Bool) := [false, false, false, false, false, false, false, false, false, false, false, false, false, false, false, true, false, false, false, false, false, true, true, false, false, false, false, false, false, false, false, false, false, false, false, false, false, false, false, false, false, false, false, false, false, false, false, false, false, false]
def z_stc5 : List (Bool) := [false, false, false, false, false, false, false, false, true, false, false, false, false, false, false, false, false, false, false, false, false, false, false, false, false, false, false, false, false, false, false, false, false, false, true, false, false, true, true, true, false, false, false, false, false, false, false, false, false, false]
def z_stc6 : List (Bool) := [false, false, false, false, false, false, false, false, false, false, false, false, false, false, false, false, false, true, true, true, false, false, false, false, false, false, true, false, false, false, false, false, true, false, false, true, false, false, false, false, false, false, false, true]
def z_stcd : List (List (Bool)) := [z_stc0, z_stc1, z_stc2, z_stc3, z_stc4, z_stc5, z_stc6]
def z_stc (k : Nat) : Bool := (z_stcd.getD (k / 50) []).getD (k % 50) false
def z_pl0 : List (Nat × Nat × Nat × Nat) := [(126, 125, 0, 105), (482, 480, 481, 105), (498, 496, 497, 105), (509, 507, 508, 105), (730, 728, 729, 105), (734, 732, 733, 105), (743, 741, 742, 105), (755, 753, 754, 105), (769, 767, 768, 105), (786, 784, 785, 105), (805, 803, 804, 105), (817, 815, 816, 105), (835, 833, 834, 105), (843, 841, 842, 105), (869, 867, 868, 105), (888, 886, 887, 105), (892, 890, 891, 105), (900, 898, 899, 105), (905, 903, 904, 105), (909, 907, 908, 105), (924, 922, 923, 105), (929, 927, 928, 105), (933, 931, 932, 105), (937, 935, 936, 105), (944, 942, 943, 105), (965, 963, 964, 105), (984, 982, 983, 105), (992, 990, 991, 105), (996, 994, 995, 105), (1008, 1006, 1007, 105), (1053, 1051, 1052, 105), (1057, 1055, 1056, 105), (1065, 1063, 1064, 105), (1086, 1084, 1085, 105), (1095, 1093, 1094, 105), (1111, 1109, 1110, 105), (1118, 1116, 1117, 105), (1127, 1125, 1126, 105), (1132, 1130, 1131, 105), (1143, 1141, 1142, 105), (1151, 1149, 1150, 105), (1155, 1153, 1154, 105), (1176, 1174, 1175, 105), (1180, 1178, 1179, 105), (1218, 1216, 1217, 105), (1226, 1224, 1225, 105), (1230, 1228, 1229, 105), (1234, 1232, 1233, 105), (1238, 1236, 1237, 105), (1246, 1244, 1245, 105)]
def z_pl1 : List (Nat × Nat × Nat × Nat) := [(1250, 1248, 1249, 105), (1262, 1260, 1261, 105), (1266, 1264, 1265, 105), (1270, 1268, 1269, 105), (1274, 1272, 1273, 105), (1279, 1277, 1278, 105), (1292, 1290, 1291, 105), (1296, 1294, 1295, 105), (1300, 1298, 1299, 105), (1309, 1307, 1308, 105), (1313, 1311, 1312, 105), (1317, 1315, 1316, 105), (1337, 1335, 1336, 105), (1342, 1340, 1341, 105), (501, 500, 0, 105), (940, 939, 0, 105), (809, 808, 15, 105), (1012, 1011, 20, 105), (865, 864, 18, 105), (1114, 1113, 0, 105), (1242, 1241, 34, 105), (1254, 1253, 35, 105), (1258, 1257, 36, 105), (1159, 1158, 28, 105), (1171, 1170, 29, 105), (1167, 1166, 0, 105), (884, 883, 0, 105), (1184, 1183, 30, 105), (1214, 1213, 32, 105), (1209, 1208, 31, 105), (1222, 1221, 33, 105), (1353, 1352, 0, 116), (1480, 1479, 0, 116), (1476, 1474, 1475, 116), (1484, 1482, 1483, 116), (1955, 1954, 93, 116), (1606, 1605, 53, 116), (1593, 1592, 51, 116), (1614, 1613, 54, 116), (1598, 1597, 52, 116), (1773, 1772, 75, 116), (1638, 1637, 59, 116), (1703, 1702, 68, 116), (1618, 1617, 55, 116), (1622, 1621, 56, 116), (1626, 1625, 57, 116), (1488, 1486, 1487, 116), (1492, 1490, 1491, 116), (1508, 1507, 38, 116), (1504, 1503, 37, 116)]
def z_pl2 : List (Nat × Nat × Nat × Nat) := [(1518, 1517, 39, 116), (1541, 1540, 44, 116), (1535, 1534, 43, 116), (1531, 1530, 42, 116), (1527, 1526, 41, 116), (1550, 1549, 46, 116), (1546, 1545, 45, 116), (1496, 1494, 1495, 116), (1572, 1571, 49, 116), (1585, 1584, 50, 116), (1565, 1564, 48, 116), (1556, 1555, 47, 116), (1522, 1521, 40, 116), (1500, 1498, 1499, 116), (1634, 1633, 58, 116), (1653, 1652, 60, 116), (1665, 1664, 62, 116), (1683, 1682, 65, 116), (1679, 1678, 64, 116), (1675, 1674, 63, 116), (1589, 1587, 1588, 116), (1602, 1600, 1601, 116), (1610, 1608, 1609, 116), (1630, 1628, 1629, 116), (1648, 1647, 0, 116), (1645, 1643, 1644, 116), (1661, 1660, 61, 116), (1657, 1655, 1656, 116), (1670, 1668, 1669, 116), (1687, 1685, 1686, 116), (1707, 1706, 69, 116), (1699, 1698, 67, 116), (1695, 1694, 66, 116), (1691, 1689, 1690, 116), (1728, 1727, 72, 116), (1724, 1723, 71, 116), (1720, 1719, 70, 116), (1734, 1733, 0, 116), (1731, 1730, 0, 116), (1715, 1713, 1714, 116), (1738, 1736, 1737, 116), (1748, 1747, 73, 116), (1777, 1776, 76, 116), (1743, 1741, 1742, 116), (1756, 1755, 0, 116), (1752, 1750, 1751, 116), (1760, 1758, 1759, 116), (1769, 1768, 74, 116), (1801, 1800, 77, 116), (1764, 1762, 1763, 116)]
def z_pl3 : List (Nat × Nat × Nat × Nat) := [(1781, 1779, 1780, 116), (1785, 1783, 1784, 116), (1789, 1787, 1788, 116), (1796, 1795, 0, 116), (1805, 1804, 78, 116), (1793, 1791, 1792, 116), (1813, 1812, 79, 116), (1821, 1820, 80, 116), (1809, 1807, 1808, 116), (1817, 1815, 1816, 116), (1829, 1828, 81, 116), (1825, 1823, 1824, 116), (1833, 1831, 1832, 116), (1841, 1840, 82, 116), (1837, 1835, 1836, 116), (1861, 1860, 86, 116), (1857, 1856, 85, 116), (1849, 1848, 83, 116), (1853, 1852, 84, 116), (1865, 1864, 87, 116), (1845, 1843, 1844, 116), (1873, 1872, 88, 116), (1869, 1867, 1868, 116), (1877, 1875, 1876, 116), (1888, 1887, 0, 116), (1895, 1894, 0, 116), (1898, 1897, 0, 116), (1892, 1891, 90, 116), (1885, 1884, 89, 116), (1881, 1879, 1880, 116), (1902, 1900, 1901, 116), (1914, 1913, 92, 116), (1910, 1909, 91, 116), (1906, 1904, 1905, 116), (1921, 1920, 0, 116), (1918, 1916, 1917, 116), (1925, 1923, 1924, 116), (1930, 1928, 1929, 116), (1937, 1936, 0, 116), (1934, 1932, 1933, 116), (1945, 1943, 1944, 116), (1949, 1947, 1948, 116), (1967, 1966, 95, 116), (1963, 1962, 94, 116), (1959, 1957, 1958, 116), (1972, 1970, 1971, 116), (1987, 1986, 97, 116), (1980, 1979, 96, 116), (1995, 1994, 99, 116), (1991, 1990, 98, 116)]
def z_pl4 : List (Nat × Nat × Nat × Nat) := [(1976, 1974, 1975, 116), (1999, 1997, 1998, 116), (2003, 2001, 2002, 116), (2007, 2005, 2006, 116), (2012, 2010, 2011, 116), (2020, 2019, 100, 116), (2016, 2014, 2015, 116), (2024, 2022, 2023, 116), (2032, 2031, 101, 116), (2028, 2026, 2027, 116), (2040, 2039, 102, 116), (2036, 2034, 2035, 116), (2044, 2042, 2043, 116), (2048, 2046, 2047, 116), (2052, 2050, 2051, 116), (2059, 2058, 0, 116), (2064, 2063, 103, 116), (2056, 2054, 2055, 116), (2068, 2066, 2067, 116), (2072, 2070, 2071, 116), (2076, 2074, 2075, 116), (1983, 1982, 0, 116), (2087, 2086, 0, 116), (2080, 2078, 2079, 116), (2084, 2082, 2083, 116), (2091, 2089, 2090, 116), (395, 394, 0, 114), (1017, 1015, 1016, 114), (1122, 1120, 1121, 114), (1026, 1024, 1025, 114), (1032, 1031, 21, 114), (1038, 1037, 22, 114), (1061, 1059, 1060, 114), (1046, 1044, 1045, 114), (1042, 1040, 1041, 114), (1069, 1067, 1068, 114), (1090, 1088, 1089, 114), (1099, 1097, 1098, 114), (1103, 1102, 26, 114), (1107, 1106, 27, 114), (1073, 1072, 23, 114), (1077, 1076, 24, 114), (1082, 1081, 25, 114), (323, 322, 0, 113), (1288, 1286, 1287, 113), (855, 853, 854, 113), (286, 285, 0, 111), (790, 788, 789, 111), (1284, 1282, 1283, 111), (821, 819, 820, 111)]
def z_pl5 : List (Nat × Nat × Nat × Nat) := [(829, 828, 16, 111), (839, 837, 838, 111), (825, 823, 824, 111), (847, 845, 846, 111), (851, 850, 17, 111), (881, 879, 880, 111), (873, 871, 872, 111), (896, 894, 895, 111), (920, 919, 0, 111), (917, 915, 916, 111), (292, 291, 0, 112), (796, 794, 795, 112), (913, 911, 912, 112), (801, 799, 800, 112), (813, 811, 812, 112), (443, 442, 0, 115), (948, 946, 947, 115), (960, 958, 959, 115), (956, 954, 955, 115), (979, 977, 978, 115), (969, 967, 968, 115), (975, 973, 974, 115), (988, 986, 987, 115), (1000, 998, 999, 115), (1004, 1003, 19, 115), (148, 147, 0, 107), (517, 515, 516, 107), (721, 719, 720, 107), (747, 745, 746, 107), (773, 771, 772, 107), (704, 702, 703, 107), (759, 757, 758, 107), (751, 749, 750, 107), (633, 631, 632, 107), (1146, 1145, 0, 107), (739, 737, 738, 107), (658, 656, 657, 107), (651, 650, 0, 107), (654, 653, 0, 107), (1135, 1134, 0, 107), (1163, 1161, 1162, 107), (763, 761, 762, 107), (679, 677, 678, 107), (691, 689, 690, 107), (699, 697, 698, 107), (712, 710, 711, 107), (708, 706, 707, 107), (687, 685, 686, 107), (778, 776, 777, 107), (782, 780, 781, 107)]
def z_pl6 : List (Nat × Nat × Nat × Nat) := [(229, 228, 0, 109), (513, 511, 512, 109), (544, 543, 1, 109), (548, 547, 2, 109), (622, 621, 7, 109), (628, 627, 8, 109), (643, 642, 9, 109), (648, 647, 10, 109), (667, 666, 11, 109), (675, 674, 12, 109), (683, 682, 13, 109), (609, 608, 5, 109), (553, 552, 3, 109), (717, 716, 14, 109), (614, 613, 6, 109), (557, 556, 4, 109), (522, 521, 0, 109), (530, 529, 0, 109), (533, 532, 0, 109), (536, 535, 0, 109), (154, 153, 0, 108), (695, 693, 694, 108), (637, 635, 636, 108), (270, 268, 269, 108), (725, 723, 724, 108), (263, 262, 0, 110), (1187, 1186, 0, 110), (1191, 1189, 1190, 110), (1197, 1195, 1196, 110), (1330, 1328, 1329, 110), (1304, 1302, 1303, 110), (1321, 1319, 1320, 110), (1204, 1203, 0, 110), (1201, 1199, 1200, 110), (1326, 1324, 1325, 110), (1333, 1332, 0, 110), (1347, 1345, 1346, 110), (134, 133, 0, 106), (494, 492, 493, 106), (486, 484, 485, 106), (505, 503, 504, 106), (527, 525, 526, 106), (490, 488, 489, 106), (0, 0, 0, 0)]
def z_pld : List (List (Nat × Nat × Nat × Nat)) := [z_pl0, z_pl1, z_pl2, z_pl3, z_pl4, z_pl5, z_pl6]
def z_pl (k : Nat) : Nat × Nat × Nat × Nat := (z_pld.getD (k / 50) []).getD (k % 50) (0, 0, 0, 0)
/-- string constants: class, place, text -/
def z_sks : List (String × Nat × String) := [("", 0, ""), ("LongBoatsModel", 158, "weight"), ("LongBoatsModel", 164, "skill"), ("LongBoatsModel", 166, "quick"), ("LongBoatsModel", 168, "tires"), ("LongBoatsModel", 170, "leans"), ("LongBoatsModel", 172, "aims"), ("LongBoatsModel", 174, "middle"), ("LongBoatsModel", 176, "corner"), ("LongBoatsModel", 178, "edge"), ("LongBoatsModel", 180, "to"), ("LongBoatsModel", 182, "reach"), ("LongBoatsModel", 184, "boat"), ("LongBoatsModel", 186, "man"), ("LongBoatsModel", 188, "team"), ("LongBoatsModel", 190, "errs"), ("LongBoatsModel", 194, "oars"), ("LongBoatsModel", 196, "slip"), ("LongBoatsModel", 204, "harbour"), ("LongBoatsModel", 206, "stream"), ("LongBoatsModel", 208, "gap"), ("LongBoatsModel", 210, "passes"), ("LongBoats$Reader", 57, "reach"), ("LongBoats$Reader", 66, "boat"), ("LongBoats$Reader", 71, "man"), ("LongBoats$Reader", 76, "team"), ("LongBoats$Reader", 81, "errs"), ("LongBoats$Reader", 96, "harbour"), ("LongBoats$Reader", 102, "stream"), ("LongBoats$Reader", 106, "gap"), ("LongBoats$Reader", 110, "passes"), ("LongBoats$Reader", 120, "to"), ("LongBoats$Reader", 124, "oars"), ("LongBoats$Reader", 130, "slip"), ("LongBoats$Reader", 135, "weight"), ("LongBoats$Reader", 141, "skill"), ("LongBoats$Reader", 143, "quick"), ("LongBoats$Reader", 145, "tires"), ("LongBoats$Reader", 147, "leans"), ("LongBoats$Reader", 149, "aims"), ("LongBoats$Reader", 165, "corner"), ("LongBoats$Reader", 167, "edge"), ("LongBoats$Reader", 169, "middle")]
def z_sk (k : Nat) : String × Nat × String := z_sks.getD k ("", 0, "")
def z_cpl : List (Nat × Nat × Nat) := [(392, 114, 12), (320, 113, 1), (283, 111, 15), (289, 112, 6), (440, 115, 1), (145, 107, 13), (226, 109, 8), (151, 108, 1), (260, 110, 3), (131, 106, 2), (123, 105, 9), (1350, 116, 39)]
abbrev zI : Type := Nat × Nat × Instr
def z_nf (ci : Nat) : Nat := (zFK.getD ci []).length
def z_fk (ci f : Nat) : Nat := (zFK.getD ci []).getD f 0
end
section
/-! WHAT IS CHECKED, by program, of each resolved instruction against the bytes and the tables' words. -/
def z_tb : List Cond := lw_tbl.filter goodWord
def z_pc (cd : List zI) (ip : Nat) : Nat := match cd[ip]? with
  | some q => q.1
  | none => 0
def z_jp (cd : List zI) (pc : Nat) (off t : Int) : Bool := decide ((pc : Int) + off = ((z_pc cd t.toNat : Nat) : Int))
def z_at1 (q : Nat) (w : Cond) : Bool := decide (lw_tbl[q]? = some w) && goodWord w
/-- the words of a field -/
def z_fld (own : String) (idx pl q : Nat) : Bool := match zC[q / 4096]? with
  | some r => decide (q / 4 % 1024 < r.2.2 ∧ r.2.2 = z_nf (q / 4096)) && z_at1 pl (.fieldLink own idx (r.2.1 (q / 4 % 1024)).1 (r.2.1 (q / 4 % 1024)).2.1 (r.2.1 (q / 4 % 1024)).2.2.1)
  | none => false
def z_fty (q : Nat) : Option FieldType := match zC[q / 4096]? with
  | some r => parseFieldDescriptor (r.2.1 (q / 4 % 1024)).2.2.1
  | none => none
def z_isR (t : Option FieldType) : Bool := match t with
  | some (.object _) => true
  | some (.array _) => true
  | _ => false
def z_fin (own : String) (ini : Bool) (q : Nat) : Bool := match zC[q / 4096]? with
  | some r => !(r.2.1 (q / 4 % 1024)).2.2.2 || (ini && decide ((r.2.1 (q / 4 % 1024)).1 = own))
  | none => false
/-- how many a call takes, of what kind its answer is -/
def z_sig (q na : Nat) : Bool := decide (q / 4 % 16 = na) && decide (q / 64 % 1000 < z_nm) && match z_rty (q / 64 % 1000), q % 4 with
  | none, 0 => true
  | some .int, 1 => true
  | some .boolean, 1 => true
  | some .long, 2 => true
  | _, _ => false
def z_np (q : Nat) : Option Nat := (parseMethodDescriptor (z_y (q / 64 % 1000)).desc).map (fun d => d.parameters.length)
def z_cls (q : Nat) : Bool := match zC[q / 64000]? with
  | some r => decide (r.1 = (z_y (q / 64 % 1000)).cls)
  | none => false
def z_isN : Cond → Bool
  | .methodLinkNest _ _ _ _ => true
  | _ => false
def z_nw : List Cond := lw_tbl.filter z_isN
def z_atN (q : Nat) (w : Cond) : Bool := decide (lw_tbl[q]? = some w) && z_isN w
def z_lnk (own : String) (idx pl q : Nat) : Bool := z_at1 pl (.methodLink own idx (z_y (q / 64 % 1000))) || z_atN pl (.methodLinkNest own idx (z_y (q / 64 % 1000)) "LongBoats")
def z_okI (own : String) (nL : Nat) (ini : Bool) (rt : Option FieldType) (cd : List zI) (ip pc pl : Nat) (ins raw : Instr) (len : Nat) : Bool := match ins with
  | .iadd => decide (raw = .iadd ∧ len = 1 ∧ z_pc cd (ip + 1) = pc + 1)
  | .isub => decide (raw = .isub ∧ len = 1 ∧ z_pc cd (ip + 1) = pc + 1)
  | .imul => decide (raw = .imul ∧ len = 1 ∧ z_pc cd (ip + 1) = pc + 1)
  | .idiv => decide (raw = .idiv ∧ len = 1 ∧ z_pc cd (ip + 1) = pc + 1)
  | .irem => decide (raw = .irem ∧ len = 1 ∧ z_pc cd (ip + 1) = pc + 1)
  | .ineg => decide (raw = .ineg ∧ len = 1 ∧ z_pc cd (ip + 1) = pc + 1)
  | .iand => decide (raw = .iand ∧ len = 1 ∧ z_pc cd (ip + 1) = pc + 1)
  | .ior => decide (raw = .ior ∧ len = 1 ∧ z_pc cd (ip + 1) = pc + 1)
  | .ixor => decide (raw = .ixor ∧ len = 1 ∧ z_pc cd (ip + 1) = pc + 1)
  | .ishl => decide (raw = .ishl ∧ len = 1 ∧ z_pc cd (ip + 1) = pc + 1)
  | .ishr => decide (raw = .ishr ∧ len = 1 ∧ z_pc cd (ip + 1) = pc + 1)
  | .ladd => decide (raw = .ladd ∧ len = 1 ∧ z_pc cd (ip + 1) = pc + 1)
  | .lsub => decide (raw = .lsub ∧ len = 1 ∧ z_pc cd (ip + 1) = pc + 1)
  | .lmul => decide (raw = .lmul ∧ len = 1 ∧ z_pc cd (ip + 1) = pc + 1)
  | .ldiv => decide (raw = .ldiv ∧ len = 1 ∧ z_pc cd (ip + 1) = pc + 1)
  | .lrem => decide (raw = .lrem ∧ len = 1 ∧ z_pc cd (ip + 1) = pc + 1)
  | .land => decide (raw = .land ∧ len = 1 ∧ z_pc cd (ip + 1) = pc + 1)
  | .lor => decide (raw = .lor ∧ len = 1 ∧ z_pc cd (ip + 1) = pc + 1)
  | .lshl => decide (raw = .lshl ∧ len = 1 ∧ z_pc cd (ip + 1) = pc + 1)
  | .lshr => decide (raw = .lshr ∧ len = 1 ∧ z_pc cd (ip + 1) = pc + 1)
  | .lcmp => decide (raw = .lcmp ∧ len = 1 ∧ z_pc cd (ip + 1) = pc + 1)
  | .i2l => decide (raw = .i2l ∧ len = 1 ∧ z_pc cd (ip + 1) = pc + 1)
  | .l2i => decide (raw = .l2i ∧ len = 1 ∧ z_pc cd (ip + 1) = pc + 1)
  | .i2b => decide (raw = .i2b ∧ len = 1 ∧ z_pc cd (ip + 1) = pc + 1)
  | .i2s => decide (raw = .i2s ∧ len = 1 ∧ z_pc cd (ip + 1) = pc + 1)
  | .dup => decide (raw = .dup ∧ len = 1 ∧ z_pc cd (ip + 1) = pc + 1)
  | .dup2 => decide (raw = .dup2 ∧ len = 1 ∧ z_pc cd (ip + 1) = pc + 1)
  | .arraylength => decide (raw = .arraylength ∧ len = 1 ∧ z_pc cd (ip + 1) = pc + 1)
  | .iaload => decide (raw = .iaload ∧ len = 1 ∧ z_pc cd (ip + 1) = pc + 1)
  | .baload => decide (raw = .baload ∧ len = 1 ∧ z_pc cd (ip + 1) = pc + 1)
  | .laload => decide (raw = .laload ∧ len = 1 ∧ z_pc cd (ip + 1) = pc + 1)
  | .aaload => decide (raw = .aaload ∧ len = 1 ∧ z_pc cd (ip + 1) = pc + 1)
  | .iastore => decide (raw = .iastore ∧ len = 1 ∧ z_pc cd (ip + 1) = pc + 1)
  | .bastore => decide (raw = .bastore ∧ len = 1 ∧ z_pc cd (ip + 1) = pc + 1)
  | .lastore => decide (raw = .lastore ∧ len = 1 ∧ z_pc cd (ip + 1) = pc + 1)
  | .aastore => decide (raw = .aastore ∧ len = 1 ∧ z_pc cd (ip + 1) = pc + 1)
  | .iconst n => decide (z_pc cd (ip + 1) = pc + len) && match raw with
    | .iconst i => decide (len = 1 ∧ Int32.ofInt i = Int32.ofInt n)
    | .bipush i => decide (len = 2 ∧ (Int8.ofInt i).toInt32 = Int32.ofInt n)
    | .sipush i => decide (len = 3 ∧ (Int16.ofInt i).toInt32 = Int32.ofInt n)
    | .ldc i => decide (len = 2) && z_at1 pl (.constant own i (Int32.ofInt n))
    | .ldc_w i => decide (len = 3) && z_at1 pl (.constant own i (Int32.ofInt n))
    | _ => false
  | .ldc2_w k => decide (z_pc cd (ip + 1) = pc + len) && match raw with
    | .lconst i => decide (len = 1 ∧ Int64.ofNat (i : Nat) = z_kl k)
    | .ldc2_w i => decide (len = 3) && z_at1 pl (.constantLong own i (z_kl k))
    | _ => false
  | .ldc k => decide (z_pc cd (ip + 1) = pc + len) && match raw with
    | .ldc i => decide (len = 2 ∧ 0 < k ∧ k < 43 ∧ (z_sk k).1 = own ∧ (z_sk k).2.1 = i)
    | _ => false
  | .iload k => decide (z_pc cd (ip + 1) = pc + len) && match raw with
    | .iload i => decide (len = 2 ∧ i = k)
    | .iload_n i => decide (len = 1 ∧ (i : Nat) = k)
    | _ => false
  | .lload k => decide (z_pc cd (ip + 1) = pc + len) && match raw with
    | .lload i => decide (len = 2 ∧ i = k)
    | .lload_n i => decide (len = 1 ∧ (i : Nat) = k)
    | _ => false
  | .aload k => decide (z_pc cd (ip + 1) = pc + len) && match raw with
    | .aload i => decide (len = 2 ∧ i = k)
    | .aload_n i => decide (len = 1 ∧ (i : Nat) = k)
    | _ => false
  | .istore k => decide (z_pc cd (ip + 1) = pc + len ∧ k < nL) && match raw with
    | .istore i => decide (len = 2 ∧ i = k)
    | .istore_n i => decide (len = 1 ∧ (i : Nat) = k)
    | _ => false
  | .lstore k => decide (z_pc cd (ip + 1) = pc + len ∧ k + 1 < nL) && match raw with
    | .lstore i => decide (len = 2 ∧ i = k)
    | .lstore_n i => decide (len = 1 ∧ (i : Nat) = k)
    | _ => false
  | .astore k => decide (z_pc cd (ip + 1) = pc + len ∧ k < nL) && match raw with
    | .astore i => decide (len = 2 ∧ i = k)
    | .astore_n i => decide (len = 1 ∧ (i : Nat) = k)
    | _ => false
  | .iinc k n => decide (raw = .iinc k n ∧ len = 3 ∧ z_pc cd (ip + 1) = pc + 3 ∧ k < nL)
  | .pop => decide (raw = .pop ∧ len = 1 ∧ z_pc cd (ip + 1) = pc + 1)
  | .pop2 => decide (len = 3 ∧ z_pc cd (ip + 1) = pc + 3) && match raw with
    | .invokespecial i => z_at1 pl (.methodLink own i objectInit)
    | _ => false
  | .if_icmp c t => decide (len = 3 ∧ z_pc cd (ip + 1) = pc + 3) && match raw with
    | .if_icmp c2 off => decide (c2 = c) && z_jp cd pc off t
    | _ => false
  | .ifCond c t => decide (len = 3 ∧ z_pc cd (ip + 1) = pc + 3) && match raw with
    | .ifCond c2 off => decide (c2 = c) && z_jp cd pc off t
    | _ => false
  | .ifnonnull t => decide (len = 3 ∧ z_pc cd (ip + 1) = pc + 3) && match raw with
    | .ifnonnull off => z_jp cd pc off t
    | _ => false
  | .goto t => decide (len = 3) && match raw with
    | .goto off => z_jp cd pc off t
    | _ => false
  | .tableswitch d lo hi ts => match raw with
    | .tableswitch d2 lo2 hi2 os => decide (lo2 = lo ∧ hi2 = hi ∧ os.size = ts.size ∧ hi + 1 = lo + ts.size) && z_jp cd pc d2 d && (List.range ts.size).all (fun i => match os[i]?, ts[i]? with
      | some a, some b => z_jp cd pc a b
      | _, _ => false)
    | _ => false
  | .getfield q => decide (len = 3 ∧ z_pc cd (ip + 1) = pc + 3) && match raw with
    | .getfield i => z_fld own i pl q && match q % 4, z_fk (q / 4096) (q / 4 % 1024) with
      | 0, 0 => true
      | 0, 3 => true
      | 1, 1 => true
      | 2, 2 => true
      | _, _ => false
    | _ => false
  | .putfield q => decide (len = 3 ∧ z_pc cd (ip + 1) = pc + 3) && match raw with
    | .putfield i => z_fld own i pl q && z_fin own ini q && match q % 4, z_fk (q / 4096) (q / 4 % 1024) with
      | 0, 0 => decide (z_fty q = some .int)
      | 3, 3 => decide (z_fty q = some .boolean)
      | 1, 1 => decide (z_fty q = some .long)
      | 2, 2 => z_isR (z_fty q)
      | _, _ => false
    | _ => false
  | .new ci => decide (len = 3 ∧ z_pc cd (ip + 1) = pc + 3) && match raw, zC[ci]? with
    | .new i, some r => z_at1 pl (.classLink own i r.1)
    | _, _ => false
  | .newarray t => decide (raw = .newarray t ∧ len = 2 ∧ z_pc cd (ip + 1) = pc + 2 ∧ (t = .int ∨ t = .byte ∨ t = .boolean ∨ t = .long))
  | .anewarray _ => decide (len = 3 ∧ z_pc cd (ip + 1) = pc + 3) && match raw with
    | .anewarray i => z_at1 pl (.classLink own i "LongBoats$Harbour")
    | _ => false
  | .invokedynamic q => decide (len = 3 ∧ z_pc cd (ip + 1) = pc + 3) && match q, raw with
    | 0, .invokestatic i => z_at1 pl (.methodLink own i Lib.Math.min.name)
    | 1, .invokestatic i => z_at1 pl (.methodLink own i Lib.Math.max.name)
    | 2, .invokestatic i => z_at1 pl (.methodLink own i Lib.Math.abs.name)
    | 3, .invokevirtual i => z_at1 pl (.methodLink own i ⟨"java/lang/String", "length", "()I"⟩)
    | 4, .invokevirtual i => z_at1 pl (.methodLink own i ⟨"java/lang/String", "charAt", "(I)C"⟩)
    | _, _ => false
  | .invokevirtual q => decide (len = 3 ∧ z_pc cd (ip + 1) = pc + 3) && match raw, z_np q with
    | .invokevirtual i, some n => z_sig q (n + 1) && z_cls q && decide (z_stc (q / 64 % 1000) = false ∧ (z_y (q / 64 % 1000)).name ≠ "<init>") && z_at1 pl (.methodLink own i (z_y (q / 64 % 1000)))
    | _, _ => false
  | .invokeinterface q _ => decide (len = 3 ∧ z_pc cd (ip + 1) = pc + 3 ∧ q % 4 = 1) && match raw, z_np q with
    | .invokevirtual i, some n => z_sig q (n + 1) && z_cls q && decide (z_stc (q / 64 % 1000) = false ∧ (z_y (q / 64 % 1000)).name ≠ "<init>") && z_at1 pl (.methodLink own i (z_y (q / 64 % 1000)))
    | _, _ => false
  | .invokestatic q => decide (len = 3 ∧ z_pc cd (ip + 1) = pc + 3) && match raw, z_np q with
    | .invokestatic i, some n => z_sig q n && decide (z_stc (q / 64 % 1000) = true) && z_lnk own i pl q
    | _, _ => false
  | .invokespecial q => decide (len = 3 ∧ z_pc cd (ip + 1) = pc + 3) && match raw, z_np q with
    | .invokespecial i, some n => z_sig q (n + 1) && z_cls q && decide (z_stc (q / 64 % 1000) = false ∧ (z_y (q / 64 % 1000)).name = "<init>" ∧ z_rty (q / 64 % 1000) = none) && z_lnk own i pl q
    | _, _ => false
  | .ireturn => decide (raw = .ireturn ∧ len = 1 ∧ rt = some .int)
  | .areturn => decide (raw = .ireturn ∧ len = 1 ∧ rt = some .boolean)
  | .lreturn => decide (raw = .lreturn ∧ len = 1 ∧ rt = some .long)
  | .return_ => decide (raw = .return_ ∧ len = 1 ∧ rt = none)
  | _ => false
/-- one place of a method's list -/
def z_ok1 (own : String) (cc : ByteArray) (nL : Nat) (ini : Bool) (rt : Option FieldType) (cd : List zI) (ip : Nat) (q : zI) : Bool := match q.2.2 with
  | .nop => decide (z_pc cd (ip + 1) = q.1)
  | ins => match decode cc q.1 with
    | .ok (raw, len) => z_okI own nL ini rt cd ip q.1 q.2.1 ins raw len
    | .error _ => false
def z_okL (own : String) (cc : ByteArray) (nL : Nat) (ini : Bool) (rt : Option FieldType) (cd : List zI) : Nat → List zI → Bool
  | _, [] => true
  | ip, q :: r => z_ok1 own cc nL ini rt cd ip q && z_okL own cc nL ini rt cd (ip + 1) r
/-- a method, by its number -/
def z_okM (k : Nat) : Bool := z_okL (z_y k).cls (z_by k) (z_ml k) (decide ((z_y k).name = "<init>")) (z_rty k) (z_cd k) 0 (z_cd k)
/-- the words of a method that any caller needs -/
def z_wdM (k : Nat) : Bool := z_at1 (z_pl k).1 (.code (z_y k) (z_by k) (z_ml k) (z_rty k)) && (bif z_stc k then z_at1 (z_pl k).2.1 (.static (z_y k)) else z_at1 (z_pl k).2.1 (.instanceMethod (z_y k))) && z_at1 (z_pl k).2.2.2 (.initialized (z_y k).cls) &&
  (z_stc k || decide ((z_y k).name = "<init>") || z_at1 (z_pl k).2.2.1 (.selects (z_y k).cls (z_y k) (z_y k))) && decide ((z_y k).cls ≠ "java/lang/invoke/MethodHandle" ∧ (z_y k).cls ≠ "java/lang/invoke/VarHandle") && plainName (z_y k).cls && decide (z_ml k ≤ 40)
/-- the pc of the first instruction is 0 -/
def z_hd (k : Nat) : Bool := decide (z_pc (z_cd k) 0 = 0)
end
section
/-! the checks, by the kernel -/
theorem z_wk_0 : (List.range 20).all (fun j => z_wdM (j + 0) && z_hd (j + 0)) = true := by decide +kernel
theorem z_wk_20 : (List.range 20).all (fun j => z_wdM (j + 20) && z_hd (j + 20)) = true := by decide +kernel
theorem z_wk_40 : (List.range 20).all (fun j => z_wdM (j + 40) && z_hd (j + 40)) = true := by decide +kernel
theorem z_wk_60 : (List.range 20).all (fun j => z_wdM (j + 60) && z_hd (j + 60)) = true := by decide +kernel
theorem z_wk_80 : (List.range 20).all (fun j => z_wdM (j + 80) && z_hd (j + 80)) = true := by decide +kernel
theorem z_wk_100 : (List.range 20).all (fun j => z_wdM (j + 100) && z_hd (j + 100)) = true := by decide +kernel
theorem z_wk_120 : (List.range 20).all (fun j => z_wdM (j + 120) && z_hd (j + 120)) = true := by decide +kernel
theorem z_wk_140 : (List.range 20).all (fun j => z_wdM (j + 140) && z_hd (j + 140)) = true := by decide +kernel
theorem z_wk_160 : (List.range 20).all (fun j => z_wdM (j + 160) && z_hd (j + 160)) = true := by decide +kernel
theorem z_wk_180 : (List.range 20).all (fun j => z_wdM (j + 180) && z_hd (j + 180)) = true := by decide +kernel
theorem z_wk_200 : (List.range 20).all (fun j => z_wdM (j + 200) && z_hd (j + 200)) = true := by decide +kernel
theorem z_wk_220 : (List.range 20).all (fun j => z_wdM (j + 220) && z_hd (j + 220)) = true := by decide +kernel
theorem z_wk_240 : (List.range 20).all (fun j => z_wdM (j + 240) && z_hd (j + 240)) = true := by decide +kernel
theorem z_wk_260 : (List.range 20).all (fun j => z_wdM (j + 260) && z_hd (j + 260)) = true := by decide +kernel
theorem z_wk_280 : (List.range 20).all (fun j => z_wdM (j + 280) && z_hd (j + 280)) = true := by decide +kernel
theorem z_wk_300 : (List.range 20).all (fun j => z_wdM (j + 300) && z_hd (j + 300)) = true := by decide +kernel
theorem z_wk_320 : (List.range 20).all (fun j => z_wdM (j + 320) && z_hd (j + 320)) = true := by decide +kernel
theorem z_wk_340 : (List.range 3).all (fun j => z_wdM (j + 340) && z_hd (j + 340)) = true := by decide +kernel
theorem z_ok_0 : (List.range 12).all (fun j => z_okM (j + 0)) = true := by decide +kernel
theorem z_ok_12 : (List.range 6).all (fun j => z_okM (j + 12)) = true := by decide +kernel
theorem z_ok_18 : (List.range 2).all (fun j => z_okM (j + 18)) = true := by decide +kernel
theorem z_ok_20 : (List.range 8).all (fun j => z_okM (j + 20)) = true := by decide +kernel
theorem z_ok_28 : (List.range 10).all (fun j => z_okM (j + 28)) = true := by decide +kernel
theorem z_ok_38 : (List.range 2).all (fun j => z_okM (j + 38)) = true := by decide +kernel
theorem z_ok_40 : (List.range 8).all (fun j => z_okM (j + 40)) = true := by decide +kernel
theorem z_ok_48 : (List.range 6).all (fun j => z_okM (j + 48)) = true := by decide +kernel
theorem z_ok_54 : (List.range 6).all (fun j => z_okM (j + 54)) = true := by decide +kernel
theorem z_ok_60 : (List.range 11).all (fun j => z_okM (j + 60)) = true := by decide +kernel
theorem z_ok_71 : (List.range 9).all (fun j => z_okM (j + 71)) = true := by decide +kernel
theorem z_ok_80 : (List.range 13).all (fun j => z_okM (j + 80)) = true := by decide +kernel
theorem z_ok_93 : (List.range 7).all (fun j => z_okM (j + 93)) = true := by decide +kernel
theorem z_ok_100 : (List.range 10).all (fun j => z_okM (j + 100)) = true := by decide +kernel
theorem z_ok_110 : (List.range 4).all (fun j => z_okM (j + 110)) = true := by decide +kernel
theorem z_ok_114 : (List.range 6).all (fun j => z_okM (j + 114)) = true := by decide +kernel
theorem z_ok_120 : (List.range 13).all (fun j => z_okM (j + 120)) = true := by decide +kernel
theorem z_ok_133 : (List.range 7).all (fun j => z_okM (j + 133)) = true := by decide +kernel
theorem z_ok_140 : (List.range 7).all (fun j => z_okM (j + 140)) = true := by decide +kernel
theorem z_ok_147 : (List.range 6).all (fun j => z_okM (j + 147)) = true := by decide +kernel
theorem z_ok_153 : (List.range 7).all (fun j => z_okM (j + 153)) = true := by decide +kernel
theorem z_ok_160 : (List.range 6).all (fun j => z_okM (j + 160)) = true := by decide +kernel
theorem z_ok_166 : (List.range 10).all (fun j => z_okM (j + 166)) = true := by decide +kernel
theorem z_ok_176 : (List.range 4).all (fun j => z_okM (j + 176)) = true := by decide +kernel
theorem z_ok_180 : (List.range 8).all (fun j => z_okM (j + 180)) = true := by decide +kernel
theorem z_ok_188 : (List.range 7).all (fun j => z_okM (j + 188)) = true := by decide +kernel
theorem z_ok_195 : (List.range 5).all (fun j => z_okM (j + 195)) = true := by decide +kernel
theorem z_ok_200 : (List.range 8).all (fun j => z_okM (j + 200)) = true := by decide +kernel
theorem z_ok_208 : (List.range 10).all (fun j => z_okM (j + 208)) = true := by decide +kernel
theorem z_ok_218 : (List.range 2).all (fun j => z_okM (j + 218)) = true := by decide +kernel
theorem z_ok_220 : (List.range 7).all (fun j => z_okM (j + 220)) = true := by decide +kernel
theorem z_ok_227 : (List.range 9).all (fun j => z_okM (j + 227)) = true := by decide +kernel
theorem z_ok_236 : (List.range 4).all (fun j => z_okM (j + 236)) = true := by decide +kernel
theorem z_ok_240 : (List.range 12).all (fun j => z_okM (j + 240)) = true := by decide +kernel
theorem z_ok_252 : (List.range 8).all (fun j => z_okM (j + 252)) = true := by decide +kernel
theorem z_ok_260 : (List.range 12).all (fun j => z_okM (j + 260)) = true := by decide +kernel
theorem z_ok_272 : (List.range 8).all (fun j => z_okM (j + 272)) = true := by decide +kernel
theorem z_ok_280 : (List.range 20).all (fun j => z_okM (j + 280)) = true := by decide +kernel
theorem z_ok_300 : (List.range 8).all (fun j => z_okM (j + 300)) = true := by decide +kernel
theorem z_ok_308 : (List.range 9).all (fun j => z_okM (j + 308)) = true := by decide +kernel
theorem z_ok_317 : (List.range 3).all (fun j => z_okM (j + 317)) = true := by decide +kernel
theorem z_ok_320 : (List.range 20).all (fun j => z_okM (j + 320)) = true := by decide +kernel
theorem z_ok_340 : (List.range 3).all (fun j => z_okM (j + 340)) = true := by decide +kernel
theorem z_all_at {f : Nat → Bool} {n b k : Nat} (h : (List.range n).all (fun j => f (j + b)) = true) (h1 : b ≤ k) (h2 : k < b + n) : f k = true := by
  have := List.all_eq_true.mp h (k - b) (List.mem_range.mpr (by omega))
  simp only [Nat.sub_add_cancel h1] at this
  exact this
theorem z_wkk : ∀ k, k < z_nm → (z_wdM k && z_hd k) = true := by
  intro k hk
  have hk : k < 343 := hk
  rcases Nat.lt_or_ge k 20 with h | h
  · exact z_all_at (f := fun k => z_wdM k && z_hd k) z_wk_0 (by omega) (by omega)
  rcases Nat.lt_or_ge k 40 with h | h
  · exact z_all_at (f := fun k => z_wdM k && z_hd k) z_wk_20 (by omega) (by omega)
  rcases Nat.lt_or_ge k 60 with h | h
  · exact z_all_at (f := fun k => z_wdM k && z_hd k) z_wk_40 (by omega) (by omega)
  rcases Nat.lt_or_ge k 80 with h | h
  · exact z_all_at (f := fun k => z_wdM k && z_hd k) z_wk_60 (by omega) (by omega)
  rcases Nat.lt_or_ge k 100 with h | h
  · exact z_all_at (f := fun k => z_wdM k && z_hd k) z_wk_80 (by omega) (by omega)
  rcases Nat.lt_or_ge k 120 with h | h
  · exact z_all_at (f := fun k => z_wdM k && z_hd k) z_wk_100 (by omega) (by omega)
  rcases Nat.lt_or_ge k 140 with h | h
  · exact z_all_at (f := fun k => z_wdM k && z_hd k) z_wk_120 (by omega) (by omega)
  rcases Nat.lt_or_ge k 160 with h | h
  · exact z_all_at (f := fun k => z_wdM k && z_hd k) z_wk_140 (by omega) (by omega)
  rcases Nat.lt_or_ge k 180 with h | h
  · exact z_all_at (f := fun k => z_wdM k && z_hd k) z_wk_160 (by omega) (by omega)
  rcases Nat.lt_or_ge k 200 with h | h
  · exact z_all_at (f := fun k => z_wdM k && z_hd k) z_wk_180 (by omega) (by omega)
  rcases Nat.lt_or_ge k 220 with h | h
  · exact z_all_at (f := fun k => z_wdM k && z_hd k) z_wk_200 (by omega) (by omega)
  rcases Nat.lt_or_ge k 240 with h | h
  · exact z_all_at (f := fun k => z_wdM k && z_hd k) z_wk_220 (by omega) (by omega)
  rcases Nat.lt_or_ge k 260 with h | h
  · exact z_all_at (f := fun k => z_wdM k && z_hd k) z_wk_240 (by omega) (by omega)
  rcases Nat.lt_or_ge k 280 with h | h
  · exact z_all_at (f := fun k => z_wdM k && z_hd k) z_wk_260 (by omega) (by omega)
  rcases Nat.lt_or_ge k 300 with h | h
  · exact z_all_at (f := fun k => z_wdM k && z_hd k) z_wk_280 (by omega) (by omega)
  rcases Nat.lt_or_ge k 320 with h | h
  · exact z_all_at (f := fun k => z_wdM k && z_hd k) z_wk_300 (by omega) (by omega)
  rcases Nat.lt_or_ge k 340 with h | h
  · exact z_all_at (f := fun k => z_wdM k && z_hd k) z_wk_320 (by omega) (by omega)
  rcases Nat.lt_or_ge k 343 with h | h
  · exact z_all_at (f := fun k => z_wdM k && z_hd k) z_wk_340 (by omega) (by omega)
  omega
theorem z_okk : ∀ k, k < z_nm → z_okM k = true := by
  intro k hk
  have hk : k < 343 := hk
  rcases Nat.lt_or_ge k 12 with h | h
  · exact z_all_at (f := z_okM) z_ok_0 (by omega) (by omega)
  rcases Nat.lt_or_ge k 18 with h | h
  · exact z_all_at (f := z_okM) z_ok_12 (by omega) (by omega)
  rcases Nat.lt_or_ge k 20 with h | h
  · exact z_all_at (f := z_okM) z_ok_18 (by omega) (by omega)
  rcases Nat.lt_or_ge k 28 with h | h
  · exact z_all_at (f := z_okM) z_ok_20 (by omega) (by omega)
  rcases Nat.lt_or_ge k 38 with h | h
  · exact z_all_at (f := z_okM) z_ok_28 (by omega) (by omega)
  rcases Nat.lt_or_ge k 40 with h | h
  · exact z_all_at (f := z_okM) z_ok_38 (by omega) (by omega)
  rcases Nat.lt_or_ge k 48 with h | h
  · exact z_all_at (f := z_okM) z_ok_40 (by omega) (by omega)
  rcases Nat.lt_or_ge k 54 with h | h
  · exact z_all_at (f := z_okM) z_ok_48 (by omega) (by omega)
  rcases Nat.lt_or_ge k 60 with h | h
  · exact z_all_at (f := z_okM) z_ok_54 (by omega) (by omega)
  rcases Nat.lt_or_ge k 71 with h | h
  · exact z_all_at (f := z_okM) z_ok_60 (by omega) (by omega)
  rcases Nat.lt_or_ge k 80 with h | h
  · exact z_all_at (f := z_okM) z_ok_71 (by omega) (by omega)
  rcases Nat.lt_or_ge k 93 with h | h
  · exact z_all_at (f := z_okM) z_ok_80 (by omega) (by omega)
  rcases Nat.lt_or_ge k 100 with h | h
  · exact z_all_at (f := z_okM) z_ok_93 (by omega) (by omega)
  rcases Nat.lt_or_ge k 110 with h | h
  · exact z_all_at (f := z_okM) z_ok_100 (by omega) (by omega)
  rcases Nat.lt_or_ge k 114 with h | h
  · exact z_all_at (f := z_okM) z_ok_110 (by omega) (by omega)
  rcases Nat.lt_or_ge k 120 with h | h
  · exact z_all_at (f := z_okM) z_ok_114 (by omega) (by omega)
  rcases Nat.lt_or_ge k 133 with h | h
  · exact z_all_at (f := z_okM) z_ok_120 (by omega) (by omega)
  rcases Nat.lt_or_ge k 140 with h | h
  · exact z_all_at (f := z_okM) z_ok_133 (by omega) (by omega)
  rcases Nat.lt_or_ge k 147 with h | h
  · exact z_all_at (f := z_okM) z_ok_140 (by omega) (by omega)
  rcases Nat.lt_or_ge k 153 with h | h
  · exact z_all_at (f := z_okM) z_ok_147 (by omega) (by omega)
  rcases Nat.lt_or_ge k 160 with h | h
  · exact z_all_at (f := z_okM) z_ok_153 (by omega) (by omega)
  rcases Nat.lt_or_ge k 166 with h | h
  · exact z_all_at (f := z_okM) z_ok_160 (by omega) (by omega)
  rcases Nat.lt_or_ge k 176 with h | h
  · exact z_all_at (f := z_okM) z_ok_166 (by omega) (by omega)
  rcases Nat.lt_or_ge k 180 with h | h
  · exact z_all_at (f := z_okM) z_ok_176 (by omega) (by omega)
  rcases Nat.lt_or_ge k 188 with h | h
  · exact z_all_at (f := z_okM) z_ok_180 (by omega) (by omega)
  rcases Nat.lt_or_ge k 195 with h | h
  · exact z_all_at (f := z_okM) z_ok_188 (by omega) (by omega)
  rcases Nat.lt_or_ge k 200 with h | h
  · exact z_all_at (f := z_okM) z_ok_195 (by omega) (by omega)
  rcases Nat.lt_or_ge k 208 with h | h
  · exact z_all_at (f := z_okM) z_ok_200 (by omega) (by omega)
  rcases Nat.lt_or_ge k 218 with h | h
  · exact z_all_at (f := z_okM) z_ok_208 (by omega) (by omega)
  rcases Nat.lt_or_ge k 220 with h | h
  · exact z_all_at (f := z_okM) z_ok_218 (by omega) (by omega)
  rcases Nat.lt_or_ge k 227 with h | h
  · exact z_all_at (f := z_okM) z_ok_220 (by omega) (by omega)
  rcases Nat.lt_or_ge k 236 with h | h
  · exact z_all_at (f := z_okM) z_ok_227 (by omega) (by omega)
  rcases Nat.lt_or_ge k 240 with h | h
  · exact z_all_at (f := z_okM) z_ok_236 (by omega) (by omega)
  rcases Nat.lt_or_ge k 252 with h | h
  · exact z_all_at (f := z_okM) z_ok_240 (by omega) (by omega)
  rcases Nat.lt_or_ge k 260 with h | h
  · exact z_all_at (f := z_okM) z_ok_252 (by omega) (by omega)
  rcases Nat.lt_or_ge k 272 with h | h
  · exact z_all_at (f := z_okM) z_ok_260 (by omega) (by omega)
  rcases Nat.lt_or_ge k 280 with h | h
  · exact z_all_at (f := z_okM) z_ok_272 (by omega) (by omega)
  rcases Nat.lt_or_ge k 300 with h | h
  · exact z_all_at (f := z_okM) z_ok_280 (by omega) (by omega)
  rcases Nat.lt_or_ge k 308 with h | h
  · exact z_all_at (f := z_okM) z_ok_300 (by omega) (by omega)
  rcases Nat.lt_or_ge k 317 with h | h
  · exact z_all_at (f := z_okM) z_ok_308 (by omega) (by omega)
  rcases Nat.lt_or_ge k 320 with h | h
  · exact z_all_at (f := z_okM) z_ok_317 (by omega) (by omega)
  rcases Nat.lt_or_ge k 340 with h | h
  · exact z_all_at (f := z_okM) z_ok_320 (by omega) (by omega)
  rcases Nat.lt_or_ge k 343 with h | h
  · exact z_all_at (f := z_okM) z_ok_340 (by omega) (by omega)
  omega
end
section
/-! THE PURE MACHINE. A run of the system's methods over numbered cells: no heap, no launch. zM: how many cells there are; what refs, ints, longs they hold (by cell and place). -/
abbrev zD : Type := (Nat → Nat → Int32) × (Nat → Nat → Int64)
abbrev zM : Type := Nat × (Nat → Nat → Option Nat) × zD
abbrev zL : Type := List (Option Value)
/-- what calls give: an int, a long, nothing (the cells' ints and longs alone change); a maker's world, an int and a world -/
abbrev zO : Type := (Nat → List Value → zM → Option (Int32 × zD)) × (Nat → List Value → zM → Option (Int64 × zD)) × (Nat → List Value → zM → Option zD) × (Nat → List Value → zM → Option zM) × (Nat → List Value → zM → Option (Int32 × zM))
/-! z_tk, z_tn of a cell: its kind (0 an object, 1 int[], 2 byte[], 3 boolean[], 4 long[], 5 a row of refs; else none) and its class' number or its length -/
def z_u {α : Type} (f : Nat → Nat → α) (k j : Nat) (v : α) : Nat → Nat → α := fun a b => if a = k then (if b = j then v else f a b) else f a b
def z_rv (r : Option Nat) : Value := match r with
  | none => .null
  | some a => .ref a
def z_at : zL → Nat → Option Value
  | [], _ => none
  | x :: _, 0 => x
  | _ :: t, k + 1 => z_at t k
def z_isL : Option Value → Bool
  | some (.long _) => true
  | some (.double _) => true
  | _ => false
/-- a long that ends at place k is no more -/
def z_kill (lv : zL) : Nat → zL
  | 0 => lv
  | k + 1 => cond (z_isL (z_at lv k)) (lv.set k none) lv
def z_s1 (lv : zL) (k : Nat) (v : Value) : zL := (z_kill lv k).set k (some v)
def z_s2 (lv : zL) (k : Nat) (v : Value) : zL := ((z_kill lv k).set k (some v)).set (k + 1) none
def z_cat : Value → Nat
  | .long _ => 2
  | .double _ => 2
  | _ => 1
def z_cs : List Value → Nat
  | [] => 0
  | v :: t => z_cat v + z_cs t
def z_sb : Nat := 1000000
def z_ar (nt : ArrayType) : Nat := match nt with
  | .int => 1
  | .byte => 2
  | .boolean => 3
  | .long => 4
  | _ => 9
/-- the args of a call with n of them, what is below -/
def z_take : Nat → List Value → List Value → Option (List Value × List Value)
  | 0, st, acc => some (acc, st)
  | _ + 1, [], _ => none
  | n + 1, v :: st, acc => z_take n st (v :: acc)
def z_ref0 (ci : Nat) : List Value → Bool
  | .ref k :: _ => (z_tk k).beq 0 && (z_tn k).beq ci
  | _ => false
def z_oI {α : Sort _} (x : Option (Int32 × zD)) (er : α) (k : Int32 → zD → α) : α := match x with
  | some (v, d) => k v d
  | none => er
def z_oJ {α : Sort _} (x : Option (Int64 × zD)) (er : α) (k : Int64 → zD → α) : α := match x with
  | some (v, d) => k v d
  | none => er
def z_oV {α : Sort _} (x : Option zD) (er : α) (k : zD → α) : α := match x with
  | some d => k d
  | none => er
def z_oN {α : Sort _} (x : Option zM) (er : α) (k : zM → α) : α := match x with
  | some d => k d
  | none => er
def z_oX {α : Sort _} (x : Option (Int32 × zM)) (er : α) (k : Int32 → zM → α) : α := match x with
  | some (v, d) => k v d
  | none => er
/-- a table of jumps, one behind the other -/
def z_tsw {α : Sort _} (x : Int) : Int → List Int → (Int → α) → α → α
  | _, [], _, d => d
  | lo, t :: ts, k, d => if x = lo then k t else z_tsw x (lo + 1) ts k d
/-- one instruction (places of the tables already looked up, targets as places in the list), by what becomes then -/
def z_ps {α : Sort _} (sc : Option (Nat × (Nat → Int32))) (o : zO) (ins : Instr) (lv : zL) (st : List Value) (m : zM) (er : α)
    (kn : zL → List Value → zM → α) (kj : Nat → zL → List Value → zM → α) (kr : Option Value → zM → α) : α :=
  match ins with
  | .iconst n => kn lv (.int (Int32.ofInt n) :: st) m
  | .ldc2_w k => kn lv (.long (z_kl k) :: st) m
  | .ldc k => kn lv (.ref (z_sb + k) :: st) m
  | .iload k => match z_at lv k with
    | some (.int x) => kn lv (.int x :: st) m
    | _ => er
  | .lload k => match z_at lv k with
    | some (.long x) => kn lv (.long x :: st) m
    | _ => er
  | .aload k => match z_at lv k with
    | some (.ref x) => kn lv (.ref x :: st) m
    | some .null => kn lv (.null :: st) m
    | _ => er
  | .istore k => match st with
    | .int x :: r => kn (z_s1 lv k (.int x)) r m
    | _ => er
  | .lstore k => match st with
    | .long x :: r => kn (z_s2 lv k (.long x)) r m
    | _ => er
  | .astore k => match st with
    | .ref x :: r => kn (z_s1 lv k (.ref x)) r m
    | .null :: r => kn (z_s1 lv k .null) r m
    | _ => er
  | .iinc k n => match z_at lv k with
    | some (.int x) => kn (z_s1 lv k (.int (x + Int32.ofInt n))) st m
    | _ => er
  | .dup => match st with
    | .int x :: r => kn lv (.int x :: .int x :: r) m
    | .ref x :: r => kn lv (.ref x :: .ref x :: r) m
    | _ => er
  | .dup2 => match st with
    | .int x :: .int y :: r => kn lv (.int x :: .int y :: .int x :: .int y :: r) m
    | .int x :: .ref y :: r => kn lv (.int x :: .ref y :: .int x :: .ref y :: r) m
    | _ => er
  | .pop => match st with
    | .int _ :: r => cond ((z_cs r).ble 8) (kn lv r m) er
    | _ => er
  | .pop2 => match st with
    | .ref _ :: r => cond ((z_cs r).ble 8) (kn lv r m) er
    | _ => er
  | .iadd => match st with
    | .int y :: .int x :: r => kn lv (.int (x + y) :: r) m
    | _ => er
  | .isub => match st with
    | .int y :: .int x :: r => kn lv (.int (x - y) :: r) m
    | _ => er
  | .imul => match st with
    | .int y :: .int x :: r => kn lv (.int (x * y) :: r) m
    | _ => er
  | .idiv => match st with
    | .int y :: .int x :: r => if y = 0 then er else kn lv (.int (x / y) :: r) m
    | _ => er
  | .irem => match st with
    | .int y :: .int x :: r => if y = 0 then er else kn lv (.int (x - x / y * y) :: r) m
    | _ => er
  | .ineg => match st with
    | .int x :: r => kn lv (.int (-x) :: r) m
    | _ => er
  | .iand => match st with
    | .int y :: .int x :: r => kn lv (.int (x &&& y) :: r) m
    | _ => er
  | .ior => match st with
    | .int y :: .int x :: r => kn lv (.int (x ||| y) :: r) m
    | _ => er
  | .ixor => match st with
    | .int y :: .int x :: r => kn lv (.int (x ^^^ y) :: r) m
    | _ => er
  | .ishl => match st with
    | .int y :: .int x :: r => kn lv (.int (x <<< (y &&& 31)) :: r) m
    | _ => er
  | .ishr => match st with
    | .int y :: .int x :: r => kn lv (.int (x >>> (y &&& 31)) :: r) m
    | _ => er
  | .ladd => match st with
    | .long y :: .long x :: r => kn lv (.long (x + y) :: r) m
    | _ => er
  | .lsub => match st with
    | .long y :: .long x :: r => kn lv (.long (x - y) :: r) m
    | _ => er
  | .lmul => match st with
    | .long y :: .long x :: r => kn lv (.long (x * y) :: r) m
    | _ => er
  | .ldiv => match st with
    | .long y :: .long x :: r => if y = 0 then er else kn lv (.long (x / y) :: r) m
    | _ => er
  | .lrem => match st with
    | .long y :: .long x :: r => if y = 0 then er else kn lv (.long (x - x / y * y) :: r) m
    | _ => er
  | .land => match st with
    | .long y :: .long x :: r => kn lv (.long (x &&& y) :: r) m
    | _ => er
  | .lor => match st with
    | .long y :: .long x :: r => kn lv (.long (x ||| y) :: r) m
    | _ => er
  | .lshl => match st with
    | .int y :: .long x :: r => kn lv (.long (x <<< (y.toInt64 &&& 63)) :: r) m
    | _ => er
  | .lshr => match st with
    | .int y :: .long x :: r => kn lv (.long (x >>> (y.toInt64 &&& 63)) :: r) m
    | _ => er
  | .lcmp => match st with
    | .long y :: .long x :: r => kn lv (.int (lg_cmp x y) :: r) m
    | _ => er
  | .i2l => match st with
    | .int x :: r => kn lv (.long x.toInt64 :: r) m
    | _ => er
  | .l2i => match st with
    | .long x :: r => kn lv (.int x.toInt32 :: r) m
    | _ => er
  | .i2b => match st with
    | .int x :: r => kn lv (.int x.toInt8.toInt32 :: r) m
    | _ => er
  | .i2s => match st with
    | .int x :: r => kn lv (.int x.toInt16.toInt32 :: r) m
    | _ => er
  | .if_icmp c t => match st with
    | .int y :: .int x :: r => match c with
      | .eq => if x = y then kj t.toNat lv r m else kn lv r m
      | .ne => if x = y then kn lv r m else kj t.toNat lv r m
      | .lt => if x < y then kj t.toNat lv r m else kn lv r m
      | .ge => if y ≤ x then kj t.toNat lv r m else kn lv r m
      | .gt => if y < x then kj t.toNat lv r m else kn lv r m
      | .le => if x ≤ y then kj t.toNat lv r m else kn lv r m
    | _ => er
  | .ifCond c t => match st with
    | .int x :: r => match c with
      | .eq => if x = 0 then kj t.toNat lv r m else kn lv r m
      | .ne => if x = 0 then kn lv r m else kj t.toNat lv r m
      | .lt => if x < 0 then kj t.toNat lv r m else kn lv r m
      | .ge => if 0 ≤ x then kj t.toNat lv r m else kn lv r m
      | .gt => if 0 < x then kj t.toNat lv r m else kn lv r m
      | .le => if x ≤ 0 then kj t.toNat lv r m else kn lv r m
    | _ => er
  | .ifnonnull t => match st with
    | .ref _ :: r => kj t.toNat lv r m
    | .null :: r => kn lv r m
    | _ => er
  | .goto t => kj t.toNat lv st m
  | .tableswitch d lo hi ts => match st with
    | .int x :: r => z_tsw x.toInt lo ts.toList (fun t => kj t.toNat lv r m) (kj d.toNat lv r m)
    | _ => er
  | .getfield q => match st with
    | .ref k :: r => cond ((z_tk k).beq 0 && (z_tn k).beq (q / 4096)) (match q % 4 with
      | 0 => kn lv (.int (m.2.2.1 k (q / 4 % 1024)) :: r) m
      | 1 => kn lv (.long (m.2.2.2 k (q / 4 % 1024)) :: r) m
      | _ => kn lv (z_rv (m.2.1 k (q / 4 % 1024)) :: r) m) er
    | _ => er
  | .putfield q => match st with
    | .int x :: .ref k :: r => cond ((z_tk k).beq 0 && (z_tn k).beq (q / 4096)) (match q % 4 with
      | 0 => kn lv r (m.1, m.2.1, z_u m.2.2.1 k (q / 4 % 1024) x, m.2.2.2)
      | 3 => if x = 0 ∨ x = 1 then kn lv r (m.1, m.2.1, z_u m.2.2.1 k (q / 4 % 1024) x, m.2.2.2) else er
      | _ => er) er
    | .long x :: .ref k :: r => cond ((z_tk k).beq 0 && (z_tn k).beq (q / 4096)) (match q % 4 with
      | 1 => kn lv r (m.1, m.2.1, m.2.2.1, z_u m.2.2.2 k (q / 4 % 1024) x)
      | _ => er) er
    | .ref x :: .ref k :: r => cond ((z_tk k).beq 0 && (z_tn k).beq (q / 4096) && x.blt z_sb) (match q % 4 with
      | 2 => kn lv r (m.1, z_u m.2.1 k (q / 4 % 1024) (some x), m.2.2.1, m.2.2.2)
      | _ => er) er
    | _ => er
  | .arraylength => match st with
    | .ref k :: r => cond (k.beq z_sb) (match sc with
      | some (n, _) => kn lv (.int (Int32.ofNat n) :: r) m
      | none => er) (cond (Nat.blt 0 (z_tk k) && (z_tk k).blt 6) (kn lv (.int (Int32.ofNat (z_tn k)) :: r) m) er)
    | _ => er
  | .iaload => match st with
    | .int j :: .ref k :: r => cond (k.beq z_sb) (match sc with
        | some (n, f) => if j < 0 ∨ n ≤ j.toNatClampNeg then er else kn lv (.int (f j.toNatClampNeg) :: r) m
        | none => er)
        (cond ((z_tk k).beq 1) (if j < 0 ∨ z_tn k ≤ j.toNatClampNeg then er else kn lv (.int (m.2.2.1 k j.toNatClampNeg) :: r) m) er)
    | _ => er
  | .baload => match st with
    | .int j :: .ref k :: r => cond ((z_tk k).beq 2 || (z_tk k).beq 3) (if j < 0 ∨ z_tn k ≤ j.toNatClampNeg then er else kn lv (.int (m.2.2.1 k j.toNatClampNeg) :: r) m) er
    | _ => er
  | .laload => match st with
    | .int j :: .ref k :: r => cond ((z_tk k).beq 4) (if j < 0 ∨ z_tn k ≤ j.toNatClampNeg then er else kn lv (.long (m.2.2.2 k j.toNatClampNeg) :: r) m) er
    | _ => er
  | .aaload => match st with
    | .int j :: .ref k :: r => cond ((z_tk k).beq 5) (if j < 0 ∨ z_tn k ≤ j.toNatClampNeg then er else kn lv (z_rv (m.2.1 k j.toNatClampNeg) :: r) m) er
    | _ => er
  | .iastore => match st with
    | .int x :: .int j :: .ref k :: r => cond ((z_tk k).beq 1) (if j < 0 ∨ z_tn k ≤ j.toNatClampNeg then er else kn lv r (m.1, m.2.1, z_u m.2.2.1 k j.toNatClampNeg x, m.2.2.2)) er
    | _ => er
  | .bastore => match st with
    | .int x :: .int j :: .ref k :: r => cond ((z_tk k).beq 2) (if j < 0 ∨ z_tn k ≤ j.toNatClampNeg then er else kn lv r (m.1, m.2.1, z_u m.2.2.1 k j.toNatClampNeg x.toInt8.toInt32, m.2.2.2))
        (cond ((z_tk k).beq 3) (if j < 0 ∨ z_tn k ≤ j.toNatClampNeg then er else kn lv r (m.1, m.2.1, z_u m.2.2.1 k j.toNatClampNeg (x &&& 1), m.2.2.2)) er)
    | _ => er
  | .lastore => match st with
    | .long x :: .int j :: .ref k :: r => cond ((z_tk k).beq 4) (if j < 0 ∨ z_tn k ≤ j.toNatClampNeg then er else kn lv r (m.1, m.2.1, m.2.2.1, z_u m.2.2.2 k j.toNatClampNeg x)) er
    | _ => er
  | .aastore => match st with
    | .ref x :: .int j :: .ref k :: r => cond ((z_tk k).beq 5 && x.blt z_sb && (z_tk x).beq 0 && (z_tn x).beq z_hc) (if j < 0 ∨ z_tn k ≤ j.toNatClampNeg then er else kn lv r (m.1, z_u m.2.1 k j.toNatClampNeg (some x), m.2.2.1, m.2.2.2)) er
    | _ => er
  | .new ci => cond ((z_tk m.1).beq 0 && (z_tn m.1).beq ci) (kn lv (.ref m.1 :: st) (m.1 + 1, m.2)) er
  | .newarray t => match st with
    | .int x :: r => cond ((z_tk m.1).beq (z_ar t)) (if x = Int32.ofNat (z_tn m.1) then kn lv (.ref m.1 :: r) (m.1 + 1, m.2) else er) er
    | _ => er
  | .anewarray _ => match st with
    | .int x :: r => cond ((z_tk m.1).beq 5) (if x = Int32.ofNat (z_tn m.1) then kn lv (.ref m.1 :: r) (m.1 + 1, m.2) else er) er
    | _ => er
  | .invokedynamic q => match q with
    | 0 => match st with
      | .int y :: .int x :: r => cond ((z_cs r).ble 8) (kn lv (.int (if y < x then y else x) :: r) m) er
      | _ => er
    | 1 => match st with
      | .int y :: .int x :: r => cond ((z_cs r).ble 8) (kn lv (.int (if x < y then y else x) :: r) m) er
      | _ => er
    | 2 => match st with
      | .int x :: r => cond ((z_cs r).ble 8) (kn lv (.int (if 0 ≤ x then x else 0 - x) :: r) m) er
      | _ => er
    | 3 => match st with
      | .ref k :: r => cond ((z_cs r).ble 8 && z_sb.blt k) (kn lv (.int (Int32.ofNat (z_tx (k - z_sb)).length) :: r) m) er
      | _ => er
    | 4 => match st with
      | .int j :: .ref k :: r => cond ((z_cs r).ble 8 && z_sb.blt k) (if j < 0 ∨ (z_tx (k - z_sb)).length ≤ j.toNatClampNeg then er else kn lv (.int ((z_tx (k - z_sb)).getD j.toNatClampNeg 0) :: r) m) er
      | _ => er
    | _ => er
  | .invokevirtual q => match z_take (q / 4 % 16) st [] with
    | some (as, r) => cond ((z_cs r).ble 8 && z_ref0 (q / 64000) as) (match q % 4 with
      | 0 => z_oV (o.2.2.1 (q / 64 % 1000) as m) er (fun d => kn lv r (m.1, m.2.1, d))
      | 1 => z_oI (o.1 (q / 64 % 1000) as m) er (fun v d => kn lv (.int v :: r) (m.1, m.2.1, d))
      | _ => z_oJ (o.2.1 (q / 64 % 1000) as m) er (fun v d => kn lv (.long v :: r) (m.1, m.2.1, d))) er
    | none => er
  | .invokestatic q => match z_take (q / 4 % 16) st [] with
    | some (as, r) => cond ((z_cs r).ble 8) (match q % 4 with
      | 0 => z_oV (o.2.2.1 (q / 64 % 1000) as m) er (fun d => kn lv r (m.1, m.2.1, d))
      | 1 => z_oI (o.1 (q / 64 % 1000) as m) er (fun v d => kn lv (.int v :: r) (m.1, m.2.1, d))
      | _ => z_oJ (o.2.1 (q / 64 % 1000) as m) er (fun v d => kn lv (.long v :: r) (m.1, m.2.1, d))) er
    | none => er
  | .invokespecial q => match z_take (q / 4 % 16) st [] with
    | some (as, r) => cond ((z_cs r).ble 8 && z_ref0 (q / 64000) as) (z_oN (o.2.2.2.1 (q / 64 % 1000) as m) er (fun m2 => kn lv r m2)) er
    | none => er
  | .invokeinterface q _ => match z_take (q / 4 % 16) st [] with
    | some (as, r) => cond ((z_cs r).ble 8 && z_ref0 (q / 64000) as) (z_oX (o.2.2.2.2 (q / 64 % 1000) as m) er (fun v m2 => kn lv (.int v :: r) m2)) er
    | none => er
  | .ireturn => match st with
    | [.int x] => kr (some (.int x)) m
    | _ => er
  | .areturn => match st with
    | [.int x] => if x = 0 ∨ x = 1 then kr (some (.int x)) m else er
    | _ => er
  | .lreturn => match st with
    | [.long x] => kr (some (.long x)) m
    | _ => er
  | .return_ => match st with
    | [] => kr none m
    | _ => er
  | _ => er
/-- from one place of the list on, to the end or the next mark (nop) -/
def z_ex (sc : Option (Nat × (Nat → Int32))) (o : zO) (cd : List zI) : Nat → List zI → Nat → zL → List Value → zM → Option ((Option Value × zM) ⊕ (Nat × zL × List Value × zM))
  | 0, _, _, _, _, _ => none
  | _ + 1, [], _, _, _, _ => none
  | f + 1, (_, _, .nop) :: _, ip, lv, st, m => some (.inr (ip + 1, lv, st, m))
  | f + 1, (_, _, ins) :: rest, ip, lv, st, m => z_ps sc o ins lv st m none (fun lv st m => z_ex sc o cd f rest (ip + 1) lv st m) (fun t lv st m => z_ex sc o cd f (cd.drop t) t lv st m) (fun v m => some (.inl (v, m)))
end
section
/-! what is made of what comes then may be made of it before -/
theorem z_ap_cond {α β : Sort _} (f : α → β) (b : Bool) (x y : α) : f (cond b x y) = cond b (f x) (f y) := by cases b <;> rfl
theorem z_ap_ite {α β : Sort _} (f : α → β) (c : Prop) {dc : Decidable c} (x y : α) : f (@ite α c dc x y) = @ite β c dc (f x) (f y) := by
  by_cases h : c <;> simp [h]
theorem z_ap_oI {α β : Sort _} (f : α → β) (x : Option (Int32 × zD)) (er : α) (k : Int32 → zD → α) : f (z_oI x er k) = z_oI x (f er) (fun v d => f (k v d)) := by cases x <;> rfl
theorem z_ap_oJ {α β : Sort _} (f : α → β) (x : Option (Int64 × zD)) (er : α) (k : Int64 → zD → α) : f (z_oJ x er k) = z_oJ x (f er) (fun v d => f (k v d)) := by cases x <;> rfl
theorem z_ap_oV {α β : Sort _} (f : α → β) (x : Option zD) (er : α) (k : zD → α) : f (z_oV x er k) = z_oV x (f er) (fun d => f (k d)) := by cases x <;> rfl
theorem z_ap_oN {α β : Sort _} (f : α → β) (x : Option zM) (er : α) (k : zM → α) : f (z_oN x er k) = z_oN x (f er) (fun d => f (k d)) := by cases x <;> rfl
theorem z_ap_oX {α β : Sort _} (f : α → β) (x : Option (Int32 × zM)) (er : α) (k : Int32 → zM → α) : f (z_oX x er k) = z_oX x (f er) (fun v d => f (k v d)) := by cases x <;> rfl
theorem z_ap_tsw {α β : Sort _} (f : α → β) (x : Int) : ∀ (lo : Int) (ts : List Int) (k : Int → α) (d : α), f (z_tsw x lo ts k d) = z_tsw x lo ts (fun t => f (k t)) (f d)
  | _, [], _, _ => rfl
  | lo, t :: ts, k, d => by
    simp only [z_tsw]
    rw [z_ap_ite f, z_ap_tsw f x (lo + 1) ts k d]
theorem z_ps_map {α β : Sort _} (f : α → β) (sc : Option (Nat × (Nat → Int32))) (o : zO) (ins : Instr) (lv : zL) (st : List Value) (m : zM) (er : α) (kn : zL → List Value → zM → α) (kj : Nat → zL → List Value → zM → α) (kr : Option Value → zM → α) :
    f (z_ps sc o ins lv st m er kn kj kr) = z_ps sc o ins lv st m (f er) (fun a b c => f (kn a b c)) (fun t a b c => f (kj t a b c)) (fun v c => f (kr v c)) := by
  cases ins <;> simp only [z_ps] <;> repeat' first | rfl | split | (simp only [z_ap_cond f, z_ap_ite f, z_ap_oI f, z_ap_oJ f, z_ap_oV f, z_ap_oN f, z_ap_oX f, z_ap_tsw f]; done) | (simp only [z_ap_cond f, z_ap_ite f, z_ap_oI f, z_ap_oJ f, z_ap_oV f, z_ap_oN f, z_ap_oX f, z_ap_tsw f])
end
section
/-! HOW A PURE WORLD LIES IN THE HEAP: cell k at the address ad k, its array class ac k; strings (and the script, number 0) at sa. -/
def z_sz (k : Nat) : Nat := match z_tk k with
  | 0 => z_nf (z_tn k)
  | _ => z_tn k
def z_sl : Nat → Nat
  | 0 => 0
  | n + 1 => z_sl n + z_sz n
def z_tr (ad sa : Nat → Nat) (v : Value) : Value := match v with
  | .ref k => .ref (if k < z_sb then ad k else sa (k - z_sb))
  | v => v
def z_fv (ad : Nat → Nat) (m : zM) (k kd f : Nat) : Value := match kd with
  | 1 => .long (m.2.2.2 k f)
  | 2 => va_rf ((m.2.1 k f).map ad)
  | _ => .int (m.2.2.1 k f)
def z_fs (ad : Nat → Nat) (m : zM) (k ci : Nat) : List Value := (List.range (z_nf ci)).map (fun f => z_fv ad m k (z_fk ci f) f)
def z_cell (ad : Nat → Nat) (ac : Nat → ClassId) (m : zM) (k : Nat) : va_E := match z_tk k with
  | 0 => .inr (z_tn k, z_fs ad m k (z_tn k))
  | 4 => .inl (ac k, z_tn k, .inr (.inl (m.2.2.2 k)))
  | 5 => .inl (ac k, z_tn k, .inr (.inr (.inr (.inr (fun j => (m.2.1 k j).map ad)))))
  | _ => .inl (ac k, z_tn k, .inl (m.2.2.1 k))
def z_ws (ad : Nat → Nat) (ac : Nat → ClassId) (m : zM) : va_W := (List.range m.1).map (fun k => (ad k, z_cell ad ac m k))
theorem z_ws_at {ad : Nat → Nat} {ac : Nat → ClassId} {m : zM} {k : Nat} (h : k < m.1) : (z_ws ad ac m)[k]? = some (ad k, z_cell ad ac m k) := by
  simp [z_ws, h]
theorem z_ws_len {ad : Nat → Nat} {ac : Nat → ClassId} {m : zM} : (z_ws ad ac m).length = m.1 := by simp [z_ws]
theorem z_ws_set {ad : Nat → Nat} {ac : Nat → ClassId} {m m' : zM} {k : Nat} {e : va_E} (h1 : m'.1 = m.1) (he : z_cell ad ac m' k = e) (hj : ∀ j, j ≠ k → z_cell ad ac m' j = z_cell ad ac m j) : (z_ws ad ac m).set k (ad k, e) = z_ws ad ac m' := by
  apply List.ext_getElem?
  intro j
  rw [List.getElem?_set]
  by_cases hkj : k = j
  · subst hkj
    by_cases hl : k < m.1
    · rw [if_pos rfl, if_pos (by rw [z_ws_len]; exact hl), z_ws_at (by rw [h1]; exact hl), he]
    · rw [if_pos rfl, if_neg (by rw [z_ws_len]; exact hl)]
      rw [List.getElem?_eq_none (by rw [z_ws_len, h1]; omega)]
  · rw [if_neg hkj]
    by_cases hl : j < m.1
    · rw [z_ws_at hl, z_ws_at (by rw [h1]; exact hl), hj j (fun q => hkj q.symm)]
    · rw [List.getElem?_eq_none (by rw [z_ws_len]; omega), List.getElem?_eq_none (by rw [z_ws_len, h1]; omega)]
def z_aty (k : Nat) : Option FieldType := match k with
  | 1 => some .int
  | 2 => some .byte
  | 3 => some .boolean
  | 4 => some .long
  | 5 => some (.object "LongBoats$Harbour")
  | _ => none
/-- refs go to cells that there are; what isn't made yet is blank; no more cells than the tables have -/
def z_wf (m : zM) : Prop := (∀ k f j, m.2.1 k f = some j → j < m.1) ∧ (∀ k, m.1 ≤ k → ∀ f, m.2.1 k f = none ∧ m.2.2.1 k f = 0 ∧ m.2.2.2 k f = 0) ∧ m.1 ≤ 200
def z_okv (n : Nat) (v : Value) : Prop := match v with
  | .ref k => k < n ∨ (z_sb ≤ k ∧ k < z_sb + 43)
  | _ => True
/-- the locals -/
def z_lv (ad sa : Nat → Nat) (nL : Nat) (ls : Array Slot) (lv : zL) : Prop := ls.size = nL ∧ lv_wf ls ∧ lv.length = nL ∧ ∀ k v, z_at lv k = some v → ls[k]? = some (.val (z_tr ad sa v))
def z_St (D : va_G) (A : Nat → Prop) (s : State) (ad0 : Nat → Nat) (n0 : Nat) (m : zM) (ad : Nat → Nat) (ac : Nat → ClassId) (tys : List (ClassId × FieldType)) (H : Heap) (locs : List Loc) : Prop :=
  va_K D zC tys s ∧ va_P D zC (z_ws ad ac m) H ∧ va_D A (z_ws ad ac m) ∧ va_S A s.heap H locs ∧ (∀ k ty, k < m.1 → z_aty (z_tk k) = some ty → (ac k, ty) ∈ tys) ∧ z_wf m ∧ n0 ≤ m.1 ∧ ∀ k, k < n0 → ad k = ad0 k
def z_G (p : Program) (l : Launch) (e : Env) (R : Room) (s : State) (mt : MethodId) (args : Array Value) (below : List Frame) (meth : Method) (c : Code) (Q : State → Prop) (D : va_G) (A : Nat → Prop) (sa ad0 : Nat → Nat) (n0 nf nL : Nat) (pcs : Nat → Nat) (ip : Nat) (lv : zL) (st : List Value) (m : zM) : Prop :=
  m.1 ≤ nf ∧ ∀ (ad : Nat → Nat) (ac : Nat → ClassId) (tys : List (ClassId × FieldType)) (H : Heap) (locs : List Loc) (ls : Array Slot), z_St D A s ad0 n0 m ad ac tys H locs → z_lv ad sa nL ls lv → (∀ v ∈ st, z_okv m.1 v) → (∀ k v, z_at lv k = some v → z_okv m.1 v) →
    W p l e R s mt args below meth c H locs (m.1 - n0) (z_sl m.1 - z_sl n0) Q (F0 mt (pcs ip) ls (st.map (z_tr ad sa)))
theorem z_at_eq (lv : zL) (k : Nat) : z_at lv k = (lv[k]?).join := by
  induction lv generalizing k with
  | nil => simp [z_at]
  | cons x t ih => cases k with
    | zero => simp [z_at]
    | succ k => simp [z_at, ih]
theorem z_at_set (lv : zL) (i k : Nat) (x : Option Value) : z_at (lv.set i x) k = if i = k ∧ i < lv.length then x else z_at lv k := by
  rw [z_at_eq, z_at_eq, List.getElem?_set]
  by_cases h : i = k
  · subst h
    by_cases h2 : i < lv.length
    · simp [h2]
    · simp [h2, List.getElem?_eq_none (Nat.le_of_not_lt h2)]
  · simp [h]
theorem z_kill_len (lv : zL) (k : Nat) : (z_kill lv k).length = lv.length := by
  cases k with
  | zero => rfl
  | succ k => simp only [z_kill]; cases z_isL (z_at lv k) <;> simp
theorem z_kill_at (lv : zL) (i k : Nat) (v : Value) (h : z_at (z_kill lv i) k = some v) : z_at lv k = some v ∧ ¬ (k + 1 = i ∧ v.category = 2) := by
  cases i with
  | zero => exact ⟨h, fun q => by omega⟩
  | succ i =>
    simp only [z_kill] at h
    cases hl : z_isL (z_at lv i) with
    | false =>
      rw [hl] at h
      refine ⟨h, fun q => ?_⟩
      have : k = i := by omega
      subst this
      rw [show z_at lv k = some v from h] at hl
      exact absurd q.2 (by cases v <;> simp_all [z_isL, Value.category])
    | true =>
      rw [hl] at h
      simp only [cond_true] at h
      rw [z_at_set] at h
      by_cases q : i = k ∧ i < lv.length
      · rw [if_pos q] at h; cases h
      · rw [if_neg q] at h
        refine ⟨h, fun w => ?_⟩
        have e : k = i := by omega
        subst e
        rw [z_at_eq] at h
        have : k < lv.length := by
          rcases Nat.lt_or_ge k lv.length with g | g
          · exact g
          · rw [List.getElem?_eq_none g] at h; cases h
        exact q ⟨rfl, this⟩
end
section
/-! ONE INSTRUCTION OF THE PURE MACHINE IS ONE OF THE MACHINE'S: stack, locals, branches. -/
def z_Cx (p : Program) (s : State) (mt : MethodId) (args : Array Value) (meth : Method) (c : Code) (own : String) (cc : ByteArray) (nL : Nat) (ini : Bool) (rt : Option FieldType) : Prop :=
  p.tables.exec = Jvm.exec ∧ c.code = cc ∧ meth.sig.returnType = rt ∧ c.maxLocals = nL ∧ s.vm.findClass own = some mt.cls ∧ (∀ w ∈ z_tb, w.before args s = true) ∧ meth.locks = false ∧ (ini = true → meth.name = "<init>")
theorem z_word {q : Nat} {w : Cond} (h : z_at1 q w = true) : w ∈ z_tb := by
  simp only [z_at1, Bool.and_eq_true, decide_eq_true_eq] at h
  exact List.mem_filter.mpr ⟨List.mem_of_getElem? h.1, h.2⟩
theorem z_jp_eq {cd : List zI} {pc : Nat} {off t : Int} (h : z_jp cd pc off t = true) : (pc : Int) + off = ((z_pc cd t.toNat : Nat) : Int) := of_decide_eq_true h
def z_ll (ad sa : Nat → Nat) (lv : zL) : List (Nat × Value) := (List.range lv.length).filterMap (fun k => (z_at lv k).map (fun v => (k, z_tr ad sa v)))
theorem z_at_lt {lv : zL} {k : Nat} {v : Value} (h : z_at lv k = some v) : k < lv.length := by
  rw [z_at_eq] at h
  rcases Nat.lt_or_ge k lv.length with g | g
  · exact g
  · rw [List.getElem?_eq_none g] at h; cases h
theorem z_ll_mem {ad sa : Nat → Nat} {lv : zL} {k : Nat} {v : Value} (h : z_at lv k = some v) : (k, z_tr ad sa v) ∈ z_ll ad sa lv :=
  List.mem_filterMap.mpr ⟨k, List.mem_range.mpr (z_at_lt h), by simp [h]⟩
theorem z_ll_has {ad sa : Nat → Nat} {nL : Nat} {ls : Array Slot} {lv : zL} (h : z_lv ad sa nL ls lv) : lv_has ls nL (z_ll ad sa lv) := by
  refine ⟨h.1, h.2.1, fun q hq => ?_⟩
  obtain ⟨k, -, hk⟩ := List.mem_filterMap.mp hq
  cases hz : z_at lv k with
  | none => simp [hz] at hk
  | some v =>
    simp [hz] at hk
    subst hk
    exact h.2.2.2 k v hz
theorem z_tr_cat (ad sa : Nat → Nat) (v : Value) : (z_tr ad sa v).category = v.category := by cases v <;> rfl
theorem z_s1_len (lv : zL) (k : Nat) (v : Value) : (z_s1 lv k v).length = lv.length := by simp [z_s1, z_kill_len]
theorem z_s2_len (lv : zL) (k : Nat) (v : Value) : (z_s2 lv k v).length = lv.length := by simp [z_s2, z_kill_len]
theorem z_s1_at {lv : zL} {i k : Nat} {v w : Value} (hi : i < lv.length) (h : z_at (z_s1 lv i v) k = some w) : (k = i ∧ w = v) ∨ (k ≠ i ∧ z_at lv k = some w ∧ ¬ (k + 1 = i ∧ w.category = 2)) := by
  rw [z_s1, z_at_set] at h
  by_cases q : i = k
  · rw [if_pos ⟨q, by rw [z_kill_len]; exact hi⟩] at h
    exact Or.inl ⟨q.symm, by cases h; rfl⟩
  · rw [if_neg (fun z => q z.1)] at h
    exact Or.inr ⟨fun z => q z.symm, z_kill_at lv i k w h⟩
theorem z_s2_at {lv : zL} {i k : Nat} {v w : Value} (hi : i + 1 < lv.length) (h : z_at (z_s2 lv i v) k = some w) : (k = i ∧ w = v) ∨ (k ≠ i ∧ k ≠ i + 1 ∧ z_at lv k = some w ∧ ¬ (k + 1 = i ∧ w.category = 2)) := by
  rw [z_s2, z_at_set] at h
  by_cases q : i + 1 = k
  · rw [if_pos ⟨q, by simp [z_kill_len]; exact hi⟩] at h
    cases h
  · rw [if_neg (fun z => q z.1), z_at_set] at h
    by_cases q2 : i = k
    · rw [if_pos ⟨q2, by rw [z_kill_len]; omega⟩] at h
      exact Or.inl ⟨q2.symm, by cases h; rfl⟩
    · rw [if_neg (fun z => q2 z.1)] at h
      exact Or.inr ⟨fun z => q2 z.symm, fun z => q z.symm, z_kill_at lv i k w h⟩
theorem z_lv_s1 {ad sa : Nat → Nat} {nL i : Nat} {ls ls' : Array Slot} {lv : zL} {v : Value} (h : z_lv ad sa nL ls lv) (hi : i < nL) (h' : lv_has ls' nL ((i, z_tr ad sa v) :: (z_ll ad sa lv).filter (fun q => !(q.1 == i) && !(q.1 + 1 == i && q.2.category == 2)))) : z_lv ad sa nL ls' (z_s1 lv i v) := by
  refine ⟨h'.1, h'.2.1, by rw [z_s1_len]; exact h.2.2.1, fun k w hk => ?_⟩
  rcases z_s1_at (by rw [h.2.2.1]; exact hi) hk with ⟨rfl, rfl⟩ | ⟨h1, h2, h3⟩
  · exact h'.2.2 _ List.mem_cons_self
  · refine h'.2.2 (k, z_tr ad sa w) (List.mem_cons_of_mem _ (List.mem_filter.mpr ⟨z_ll_mem h2, ?_⟩))
    simp only [z_tr_cat]
    simp [h1]
    exact Classical.not_and_iff_not_or_not.mp h3
theorem z_lv_s2 {ad sa : Nat → Nat} {nL i : Nat} {ls ls' : Array Slot} {lv : zL} {v : Value} (h : z_lv ad sa nL ls lv) (hi : i + 1 < nL) (h' : lv_has ls' nL ((i, z_tr ad sa v) :: (z_ll ad sa lv).filter (fun q => !(q.1 == i) && (!(q.1 == i + 1) && !(q.1 + 1 == i && q.2.category == 2))))) : z_lv ad sa nL ls' (z_s2 lv i v) := by
  refine ⟨h'.1, h'.2.1, by rw [z_s2_len]; exact h.2.2.1, fun k w hk => ?_⟩
  rcases z_s2_at (by rw [h.2.2.1]; exact hi) hk with ⟨rfl, rfl⟩ | ⟨h1, h1b, h2, h3⟩
  · exact h'.2.2 _ List.mem_cons_self
  · refine h'.2.2 (k, z_tr ad sa w) (List.mem_cons_of_mem _ (List.mem_filter.mpr ⟨z_ll_mem h2, ?_⟩))
    simp only [z_tr_cat]
    simp [h1, h1b]
    exact Classical.not_and_iff_not_or_not.mp h3
theorem z_ok_s1 {n : Nat} {lv : zL} {i : Nat} {v : Value} (hi : i < lv.length) (hv : z_okv n v) (h : ∀ k w, z_at lv k = some w → z_okv n w) : ∀ k w, z_at (z_s1 lv i v) k = some w → z_okv n w := fun k w hk => by
  rcases z_s1_at hi hk with ⟨-, rfl⟩ | ⟨-, h2, -⟩
  · exact hv
  · exact h k w h2
theorem z_ok_s2 {n : Nat} {lv : zL} {i : Nat} {v : Value} (hi : i + 1 < lv.length) (hv : z_okv n v) (h : ∀ k w, z_at lv k = some w → z_okv n w) : ∀ k w, z_at (z_s2 lv i v) k = some w → z_okv n w := fun k w hk => by
  rcases z_s2_at hi hk with ⟨-, rfl⟩ | ⟨-, -, h2, -⟩
  · exact hv
  · exact h k w h2
section ZS

variable {p : Program} {l : Launch} {e : Env} {R : Room} {s : State} {mt : MethodId} {args : Array Value} {below : List Frame} {meth : Method} {c : Code} {Q : State → Prop} {D : va_G} {A : Nat → Prop} {sa sv ad0 : Nat → Nat} {n0 nf nL : Nat} {cd : List zI} {own : String} {cc : ByteArray} {ini : Bool} {rt : Option FieldType}

theorem zs_step {ip ip' : Nat} {lv : zL} {st st' : List Value} {m : zM} (hok : (∀ v ∈ st, z_okv m.1 v) → (∀ k v, z_at lv k = some v → z_okv m.1 v) → ∀ v ∈ st', z_okv m.1 v)
    (hs : ∀ (ad : Nat → Nat) (H : Heap) (locs : List Loc) (ls : Array Slot), z_lv ad sa nL ls lv → W p l e R s mt args below meth c H locs (m.1 - n0) (z_sl m.1 - z_sl n0) Q (F0 mt (z_pc cd ip') ls (st'.map (z_tr ad sa))) → W p l e R s mt args below meth c H locs (m.1 - n0) (z_sl m.1 - z_sl n0) Q (F0 mt (z_pc cd ip) ls (st.map (z_tr ad sa)))) (h : z_G p l e R s mt args below meth c Q D A sa ad0 n0 nf nL (z_pc cd) ip' lv st' m) : z_G p l e R s mt args below meth c Q D A sa ad0 n0 nf nL (z_pc cd) ip lv st m :=
  ⟨h.1, fun ad ac tys H locs ls hSt hl ho hv => hs ad H locs ls hl (h.2 ad ac tys H locs ls hSt hl (hok ho hv) hv)⟩
theorem zs_if {ip t : Nat} {lv : zL} {st st' : List Value} {m : zM} {P : Prop} {dP : Decidable P} (hok : (∀ v ∈ st, z_okv m.1 v) → ∀ v ∈ st', z_okv m.1 v)
    (hs : ∀ (ad : Nat → Nat) (H : Heap) (locs : List Loc) (ls : Array Slot), (P → W p l e R s mt args below meth c H locs (m.1 - n0) (z_sl m.1 - z_sl n0) Q (F0 mt (z_pc cd t) ls (st'.map (z_tr ad sa)))) → (¬ P → W p l e R s mt args below meth c H locs (m.1 - n0) (z_sl m.1 - z_sl n0) Q (F0 mt (z_pc cd (ip + 1)) ls (st'.map (z_tr ad sa)))) → W p l e R s mt args below meth c H locs (m.1 - n0) (z_sl m.1 - z_sl n0) Q (F0 mt (z_pc cd ip) ls (st.map (z_tr ad sa)))) (h : @ite Prop P dP (z_G p l e R s mt args below meth c Q D A sa ad0 n0 nf nL (z_pc cd) t lv st' m) (z_G p l e R s mt args below meth c Q D A sa ad0 n0 nf nL (z_pc cd) (ip + 1) lv st' m)) : z_G p l e R s mt args below meth c Q D A sa ad0 n0 nf nL (z_pc cd) ip lv st m := by
  by_cases hP : P
  · rw [if_pos hP] at h
    exact ⟨h.1, fun ad ac tys H locs ls hSt hl ho hv => hs ad H locs ls (fun _ => h.2 ad ac tys H locs ls hSt hl (hok ho) hv) (fun q => absurd hP q)⟩
  · rw [if_neg hP] at h
    exact ⟨h.1, fun ad ac tys H locs ls hSt hl ho hv => hs ad H locs ls (fun q => absurd q hP) (fun _ => h.2 ad ac tys H locs ls hSt hl (hok ho) hv)⟩
theorem zs_ifN {ip t : Nat} {lv : zL} {st st' : List Value} {m : zM} {P : Prop} {dP : Decidable P} (hok : (∀ v ∈ st, z_okv m.1 v) → ∀ v ∈ st', z_okv m.1 v)
    (hs : ∀ (ad : Nat → Nat) (H : Heap) (locs : List Loc) (ls : Array Slot), (¬ P → W p l e R s mt args below meth c H locs (m.1 - n0) (z_sl m.1 - z_sl n0) Q (F0 mt (z_pc cd t) ls (st'.map (z_tr ad sa)))) → (P → W p l e R s mt args below meth c H locs (m.1 - n0) (z_sl m.1 - z_sl n0) Q (F0 mt (z_pc cd (ip + 1)) ls (st'.map (z_tr ad sa)))) → W p l e R s mt args below meth c H locs (m.1 - n0) (z_sl m.1 - z_sl n0) Q (F0 mt (z_pc cd ip) ls (st.map (z_tr ad sa)))) (h : @ite Prop P dP (z_G p l e R s mt args below meth c Q D A sa ad0 n0 nf nL (z_pc cd) (ip + 1) lv st' m) (z_G p l e R s mt args below meth c Q D A sa ad0 n0 nf nL (z_pc cd) t lv st' m)) : z_G p l e R s mt args below meth c Q D A sa ad0 n0 nf nL (z_pc cd) ip lv st m := by
  by_cases hP : P
  · rw [if_pos hP] at h
    exact ⟨h.1, fun ad ac tys H locs ls hSt hl ho hv => hs ad H locs ls (fun q => absurd hP q) (fun _ => h.2 ad ac tys H locs ls hSt hl (hok ho) hv)⟩
  · rw [if_neg hP] at h
    exact ⟨h.1, fun ad ac tys H locs ls hSt hl ho hv => hs ad H locs ls (fun _ => h.2 ad ac tys H locs ls hSt hl (hok ho) hv) (fun q => absurd q hP)⟩
theorem zs_iadd (C : z_Cx p s mt args meth c own cc nL ini rt) {ip : Nat} {lv : zL} {r : List Value} {m : zM} {y : Int32} {x : Int32} (hd : decode cc (z_pc cd ip) = .ok (.iadd, 1)) (hn : z_pc cd (ip + 1) = z_pc cd ip + 1) (h : z_G p l e R s mt args below meth c Q D A sa ad0 n0 nf nL (z_pc cd) (ip + 1) lv (.int (x + y) :: r) m) : z_G p l e R s mt args below meth c Q D A sa ad0 n0 nf nL (z_pc cd) ip lv (.int y :: .int x :: r) m := by
  refine zs_step (fun ho hv => ?_) (fun ad H locs ls hl k => ?_) h
  · simp [z_okv] at ho ⊢; exact ho
  · rw [hn] at k
    exact lv_iadd C.1 C.2.1 hd k
theorem zs_isub (C : z_Cx p s mt args meth c own cc nL ini rt) {ip : Nat} {lv : zL} {r : List Value} {m : zM} {y : Int32} {x : Int32} (hd : decode cc (z_pc cd ip) = .ok (.isub, 1)) (hn : z_pc cd (ip + 1) = z_pc cd ip + 1) (h : z_G p l e R s mt args below meth c Q D A sa ad0 n0 nf nL (z_pc cd) (ip + 1) lv (.int (x - y) :: r) m) : z_G p l e R s mt args below meth c Q D A sa ad0 n0 nf nL (z_pc cd) ip lv (.int y :: .int x :: r) m := by
  refine zs_step (fun ho hv => ?_) (fun ad H locs ls hl k => ?_) h
  · simp [z_okv] at ho ⊢; exact ho
  · rw [hn] at k
    exact lv_isub C.1 C.2.1 hd k
theorem zs_imul (C : z_Cx p s mt args meth c own cc nL ini rt) {ip : Nat} {lv : zL} {r : List Value} {m : zM} {y : Int32} {x : Int32} (hd : decode cc (z_pc cd ip) = .ok (.imul, 1)) (hn : z_pc cd (ip + 1) = z_pc cd ip + 1) (h : z_G p l e R s mt args below meth c Q D A sa ad0 n0 nf nL (z_pc cd) (ip + 1) lv (.int (x * y) :: r) m) : z_G p l e R s mt args below meth c Q D A sa ad0 n0 nf nL (z_pc cd) ip lv (.int y :: .int x :: r) m := by
  refine zs_step (fun ho hv => ?_) (fun ad H locs ls hl k => ?_) h
  · simp [z_okv] at ho ⊢; exact ho
  · rw [hn] at k
    exact lv_imul C.1 C.2.1 hd k
theorem zs_iand (C : z_Cx p s mt args meth c own cc nL ini rt) {ip : Nat} {lv : zL} {r : List Value} {m : zM} {y : Int32} {x : Int32} (hd : decode cc (z_pc cd ip) = .ok (.iand, 1)) (hn : z_pc cd (ip + 1) = z_pc cd ip + 1) (h : z_G p l e R s mt args below meth c Q D A sa ad0 n0 nf nL (z_pc cd) (ip + 1) lv (.int (x &&& y) :: r) m) : z_G p l e R s mt args below meth c Q D A sa ad0 n0 nf nL (z_pc cd) ip lv (.int y :: .int x :: r) m := by
  refine zs_step (fun ho hv => ?_) (fun ad H locs ls hl k => ?_) h
  · simp [z_okv] at ho ⊢; exact ho
  · rw [hn] at k
    exact lv_iand C.1 C.2.1 hd k
theorem zs_ior (C : z_Cx p s mt args meth c own cc nL ini rt) {ip : Nat} {lv : zL} {r : List Value} {m : zM} {y : Int32} {x : Int32} (hd : decode cc (z_pc cd ip) = .ok (.ior, 1)) (hn : z_pc cd (ip + 1) = z_pc cd ip + 1) (h : z_G p l e R s mt args below meth c Q D A sa ad0 n0 nf nL (z_pc cd) (ip + 1) lv (.int (x ||| y) :: r) m) : z_G p l e R s mt args below meth c Q D A sa ad0 n0 nf nL (z_pc cd) ip lv (.int y :: .int x :: r) m := by
  refine zs_step (fun ho hv => ?_) (fun ad H locs ls hl k => ?_) h
  · simp [z_okv] at ho ⊢; exact ho
  · rw [hn] at k
    exact lv_ior C.1 C.2.1 hd k
theorem zs_ixor (C : z_Cx p s mt args meth c own cc nL ini rt) {ip : Nat} {lv : zL} {r : List Value} {m : zM} {y : Int32} {x : Int32} (hd : decode cc (z_pc cd ip) = .ok (.ixor, 1)) (hn : z_pc cd (ip + 1) = z_pc cd ip + 1) (h : z_G p l e R s mt args below meth c Q D A sa ad0 n0 nf nL (z_pc cd) (ip + 1) lv (.int (x ^^^ y) :: r) m) : z_G p l e R s mt args below meth c Q D A sa ad0 n0 nf nL (z_pc cd) ip lv (.int y :: .int x :: r) m := by
  refine zs_step (fun ho hv => ?_) (fun ad H locs ls hl k => ?_) h
  · simp [z_okv] at ho ⊢; exact ho
  · rw [hn] at k
    exact lv_ixor C.1 C.2.1 hd k
theorem zs_ishl (C : z_Cx p s mt args meth c own cc nL ini rt) {ip : Nat} {lv : zL} {r : List Value} {m : zM} {y : Int32} {x : Int32} (hd : decode cc (z_pc cd ip) = .ok (.ishl, 1)) (hn : z_pc cd (ip + 1) = z_pc cd ip + 1) (h : z_G p l e R s mt args below meth c Q D A sa ad0 n0 nf nL (z_pc cd) (ip + 1) lv (.int (x <<< (y &&& 31)) :: r) m) : z_G p l e R s mt args below meth c Q D A sa ad0 n0 nf nL (z_pc cd) ip lv (.int y :: .int x :: r) m := by
  refine zs_step (fun ho hv => ?_) (fun ad H locs ls hl k => ?_) h
  · simp [z_okv] at ho ⊢; exact ho
  · rw [hn] at k
    exact lv_ishl C.1 C.2.1 hd k
theorem zs_ishr (C : z_Cx p s mt args meth c own cc nL ini rt) {ip : Nat} {lv : zL} {r : List Value} {m : zM} {y : Int32} {x : Int32} (hd : decode cc (z_pc cd ip) = .ok (.ishr, 1)) (hn : z_pc cd (ip + 1) = z_pc cd ip + 1) (h : z_G p l e R s mt args below meth c Q D A sa ad0 n0 nf nL (z_pc cd) (ip + 1) lv (.int (x >>> (y &&& 31)) :: r) m) : z_G p l e R s mt args below meth c Q D A sa ad0 n0 nf nL (z_pc cd) ip lv (.int y :: .int x :: r) m := by
  refine zs_step (fun ho hv => ?_) (fun ad H locs ls hl k => ?_) h
  · simp [z_okv] at ho ⊢; exact ho
  · rw [hn] at k
    exact lv_ishr C.1 C.2.1 hd k
theorem zs_ladd (C : z_Cx p s mt args meth c own cc nL ini rt) {ip : Nat} {lv : zL} {r : List Value} {m : zM} {y : Int64} {x : Int64} (hd : decode cc (z_pc cd ip) = .ok (.ladd, 1)) (hn : z_pc cd (ip + 1) = z_pc cd ip + 1) (h : z_G p l e R s mt args below meth c Q D A sa ad0 n0 nf nL (z_pc cd) (ip + 1) lv (.long (x + y) :: r) m) : z_G p l e R s mt args below meth c Q D A sa ad0 n0 nf nL (z_pc cd) ip lv (.long y :: .long x :: r) m := by
  refine zs_step (fun ho hv => ?_) (fun ad H locs ls hl k => ?_) h
  · simp [z_okv] at ho ⊢; exact ho
  · rw [hn] at k
    exact lv_ladd C.1 C.2.1 hd k
theorem zs_lsub (C : z_Cx p s mt args meth c own cc nL ini rt) {ip : Nat} {lv : zL} {r : List Value} {m : zM} {y : Int64} {x : Int64} (hd : decode cc (z_pc cd ip) = .ok (.lsub, 1)) (hn : z_pc cd (ip + 1) = z_pc cd ip + 1) (h : z_G p l e R s mt args below meth c Q D A sa ad0 n0 nf nL (z_pc cd) (ip + 1) lv (.long (x - y) :: r) m) : z_G p l e R s mt args below meth c Q D A sa ad0 n0 nf nL (z_pc cd) ip lv (.long y :: .long x :: r) m := by
  refine zs_step (fun ho hv => ?_) (fun ad H locs ls hl k => ?_) h
  · simp [z_okv] at ho ⊢; exact ho
  · rw [hn] at k
    exact lv_lsub C.1 C.2.1 hd k
theorem zs_lmul (C : z_Cx p s mt args meth c own cc nL ini rt) {ip : Nat} {lv : zL} {r : List Value} {m : zM} {y : Int64} {x : Int64} (hd : decode cc (z_pc cd ip) = .ok (.lmul, 1)) (hn : z_pc cd (ip + 1) = z_pc cd ip + 1) (h : z_G p l e R s mt args below meth c Q D A sa ad0 n0 nf nL (z_pc cd) (ip + 1) lv (.long (x * y) :: r) m) : z_G p l e R s mt args below meth c Q D A sa ad0 n0 nf nL (z_pc cd) ip lv (.long y :: .long x :: r) m := by
  refine zs_step (fun ho hv => ?_) (fun ad H locs ls hl k => ?_) h
  · simp [z_okv] at ho ⊢; exact ho
  · rw [hn] at k
    exact lv_lmul C.1 C.2.1 hd k
theorem zs_land (C : z_Cx p s mt args meth c own cc nL ini rt) {ip : Nat} {lv : zL} {r : List Value} {m : zM} {y : Int64} {x : Int64} (hd : decode cc (z_pc cd ip) = .ok (.land, 1)) (hn : z_pc cd (ip + 1) = z_pc cd ip + 1) (h : z_G p l e R s mt args below meth c Q D A sa ad0 n0 nf nL (z_pc cd) (ip + 1) lv (.long (x &&& y) :: r) m) : z_G p l e R s mt args below meth c Q D A sa ad0 n0 nf nL (z_pc cd) ip lv (.long y :: .long x :: r) m := by
  refine zs_step (fun ho hv => ?_) (fun ad H locs ls hl k => ?_) h
  · simp [z_okv] at ho ⊢; exact ho
  · rw [hn] at k
    exact lv_land C.1 C.2.1 hd k
theorem zs_lor (C : z_Cx p s mt args meth c own cc nL ini rt) {ip : Nat} {lv : zL} {r : List Value} {m : zM} {y : Int64} {x : Int64} (hd : decode cc (z_pc cd ip) = .ok (.lor, 1)) (hn : z_pc cd (ip + 1) = z_pc cd ip + 1) (h : z_G p l e R s mt args below meth c Q D A sa ad0 n0 nf nL (z_pc cd) (ip + 1) lv (.long (x ||| y) :: r) m) : z_G p l e R s mt args below meth c Q D A sa ad0 n0 nf nL (z_pc cd) ip lv (.long y :: .long x :: r) m := by
  refine zs_step (fun ho hv => ?_) (fun ad H locs ls hl k => ?_) h
  · simp [z_okv] at ho ⊢; exact ho
  · rw [hn] at k
    exact lv_lor C.1 C.2.1 hd k
theorem zs_lshl (C : z_Cx p s mt args meth c own cc nL ini rt) {ip : Nat} {lv : zL} {r : List Value} {m : zM} {y : Int32} {x : Int64} (hd : decode cc (z_pc cd ip) = .ok (.lshl, 1)) (hn : z_pc cd (ip + 1) = z_pc cd ip + 1) (h : z_G p l e R s mt args below meth c Q D A sa ad0 n0 nf nL (z_pc cd) (ip + 1) lv (.long (x <<< (y.toInt64 &&& 63)) :: r) m) : z_G p l e R s mt args below meth c Q D A sa ad0 n0 nf nL (z_pc cd) ip lv (.int y :: .long x :: r) m := by
  refine zs_step (fun ho hv => ?_) (fun ad H locs ls hl k => ?_) h
  · simp [z_okv] at ho ⊢; exact ho
  · rw [hn] at k
    exact lv_lshl C.1 C.2.1 hd rfl k
theorem zs_lshr (C : z_Cx p s mt args meth c own cc nL ini rt) {ip : Nat} {lv : zL} {r : List Value} {m : zM} {y : Int32} {x : Int64} (hd : decode cc (z_pc cd ip) = .ok (.lshr, 1)) (hn : z_pc cd (ip + 1) = z_pc cd ip + 1) (h : z_G p l e R s mt args below meth c Q D A sa ad0 n0 nf nL (z_pc cd) (ip + 1) lv (.long (x >>> (y.toInt64 &&& 63)) :: r) m) : z_G p l e R s mt args below meth c Q D A sa ad0 n0 nf nL (z_pc cd) ip lv (.int y :: .long x :: r) m := by
  refine zs_step (fun ho hv => ?_) (fun ad H locs ls hl k => ?_) h
  · simp [z_okv] at ho ⊢; exact ho
  · rw [hn] at k
    exact lv_lshr C.1 C.2.1 hd rfl k
theorem zs_lcmp (C : z_Cx p s mt args meth c own cc nL ini rt) {ip : Nat} {lv : zL} {r : List Value} {m : zM} {y : Int64} {x : Int64} (hd : decode cc (z_pc cd ip) = .ok (.lcmp, 1)) (hn : z_pc cd (ip + 1) = z_pc cd ip + 1) (h : z_G p l e R s mt args below meth c Q D A sa ad0 n0 nf nL (z_pc cd) (ip + 1) lv (.int (lg_cmp x y) :: r) m) : z_G p l e R s mt args below meth c Q D A sa ad0 n0 nf nL (z_pc cd) ip lv (.long y :: .long x :: r) m := by
  refine zs_step (fun ho hv => ?_) (fun ad H locs ls hl k => ?_) h
  · simp [z_okv] at ho ⊢; exact ho
  · rw [hn] at k
    exact W.lcmp C.1 C.2.1 hd k
theorem zs_idiv (C : z_Cx p s mt args meth c own cc nL ini rt) {ip : Nat} {lv : zL} {r : List Value} {m : zM} {y : Int32} {x : Int32} (hne : ¬ y = 0) (hd : decode cc (z_pc cd ip) = .ok (.idiv, 1)) (hn : z_pc cd (ip + 1) = z_pc cd ip + 1) (h : z_G p l e R s mt args below meth c Q D A sa ad0 n0 nf nL (z_pc cd) (ip + 1) lv (.int (x / y) :: r) m) : z_G p l e R s mt args below meth c Q D A sa ad0 n0 nf nL (z_pc cd) ip lv (.int y :: .int x :: r) m := by
  refine zs_step (fun ho hv => ?_) (fun ad H locs ls hl k => ?_) h
  · simp [z_okv] at ho ⊢; exact ho
  · rw [hn] at k
    exact lv_idiv C.1 C.2.1 hd hne k
theorem zs_irem (C : z_Cx p s mt args meth c own cc nL ini rt) {ip : Nat} {lv : zL} {r : List Value} {m : zM} {y : Int32} {x : Int32} (hne : ¬ y = 0) (hd : decode cc (z_pc cd ip) = .ok (.irem, 1)) (hn : z_pc cd (ip + 1) = z_pc cd ip + 1) (h : z_G p l e R s mt args below meth c Q D A sa ad0 n0 nf nL (z_pc cd) (ip + 1) lv (.int (x - x / y * y) :: r) m) : z_G p l e R s mt args below meth c Q D A sa ad0 n0 nf nL (z_pc cd) ip lv (.int y :: .int x :: r) m := by
  refine zs_step (fun ho hv => ?_) (fun ad H locs ls hl k => ?_) h
  · simp [z_okv] at ho ⊢; exact ho
  · rw [hn] at k
    exact lv_irem C.1 C.2.1 hd hne k
theorem zs_ldiv (C : z_Cx p s mt args meth c own cc nL ini rt) {ip : Nat} {lv : zL} {r : List Value} {m : zM} {y : Int64} {x : Int64} (hne : ¬ y = 0) (hd : decode cc (z_pc cd ip) = .ok (.ldiv, 1)) (hn : z_pc cd (ip + 1) = z_pc cd ip + 1) (h : z_G p l e R s mt args below meth c Q D A sa ad0 n0 nf nL (z_pc cd) (ip + 1) lv (.long (x / y) :: r) m) : z_G p l e R s mt args below meth c Q D A sa ad0 n0 nf nL (z_pc cd) ip lv (.long y :: .long x :: r) m := by
  refine zs_step (fun ho hv => ?_) (fun ad H locs ls hl k => ?_) h
  · simp [z_okv] at ho ⊢; exact ho
  · rw [hn] at k
    exact lv_ldiv C.1 C.2.1 hd hne k
theorem zs_lrem (C : z_Cx p s mt args meth c own cc nL ini rt) {ip : Nat} {lv : zL} {r : List Value} {m : zM} {y : Int64} {x : Int64} (hne : ¬ y = 0) (hd : decode cc (z_pc cd ip) = .ok (.lrem, 1)) (hn : z_pc cd (ip + 1) = z_pc cd ip + 1) (h : z_G p l e R s mt args below meth c Q D A sa ad0 n0 nf nL (z_pc cd) (ip + 1) lv (.long (x - x / y * y) :: r) m) : z_G p l e R s mt args below meth c Q D A sa ad0 n0 nf nL (z_pc cd) ip lv (.long y :: .long x :: r) m := by
  refine zs_step (fun ho hv => ?_) (fun ad H locs ls hl k => ?_) h
  · simp [z_okv] at ho ⊢; exact ho
  · rw [hn] at k
    exact lv_lrem C.1 C.2.1 hd hne k
theorem zs_ineg (C : z_Cx p s mt args meth c own cc nL ini rt) {ip : Nat} {lv : zL} {r : List Value} {m : zM} {x : Int32} (hd : decode cc (z_pc cd ip) = .ok (.ineg, 1)) (hn : z_pc cd (ip + 1) = z_pc cd ip + 1) (h : z_G p l e R s mt args below meth c Q D A sa ad0 n0 nf nL (z_pc cd) (ip + 1) lv (.int (-x) :: r) m) : z_G p l e R s mt args below meth c Q D A sa ad0 n0 nf nL (z_pc cd) ip lv (.int x :: r) m := by
  refine zs_step (fun ho hv => ?_) (fun ad H locs ls hl k => ?_) h
  · simp [z_okv] at ho ⊢; exact ho
  · rw [hn] at k
    exact lv_ineg C.1 C.2.1 hd k
theorem zs_i2l (C : z_Cx p s mt args meth c own cc nL ini rt) {ip : Nat} {lv : zL} {r : List Value} {m : zM} {x : Int32} (hd : decode cc (z_pc cd ip) = .ok (.i2l, 1)) (hn : z_pc cd (ip + 1) = z_pc cd ip + 1) (h : z_G p l e R s mt args below meth c Q D A sa ad0 n0 nf nL (z_pc cd) (ip + 1) lv (.long x.toInt64 :: r) m) : z_G p l e R s mt args below meth c Q D A sa ad0 n0 nf nL (z_pc cd) ip lv (.int x :: r) m := by
  refine zs_step (fun ho hv => ?_) (fun ad H locs ls hl k => ?_) h
  · simp [z_okv] at ho ⊢; exact ho
  · rw [hn] at k
    exact lv_i2l C.1 C.2.1 hd rfl k
theorem zs_l2i (C : z_Cx p s mt args meth c own cc nL ini rt) {ip : Nat} {lv : zL} {r : List Value} {m : zM} {x : Int64} (hd : decode cc (z_pc cd ip) = .ok (.l2i, 1)) (hn : z_pc cd (ip + 1) = z_pc cd ip + 1) (h : z_G p l e R s mt args below meth c Q D A sa ad0 n0 nf nL (z_pc cd) (ip + 1) lv (.int x.toInt32 :: r) m) : z_G p l e R s mt args below meth c Q D A sa ad0 n0 nf nL (z_pc cd) ip lv (.long x :: r) m := by
  refine zs_step (fun ho hv => ?_) (fun ad H locs ls hl k => ?_) h
  · simp [z_okv] at ho ⊢; exact ho
  · rw [hn] at k
    exact lv_l2i C.1 C.2.1 hd rfl k
theorem zs_i2b (C : z_Cx p s mt args meth c own cc nL ini rt) {ip : Nat} {lv : zL} {r : List Value} {m : zM} {x : Int32} (hd : decode cc (z_pc cd ip) = .ok (.i2b, 1)) (hn : z_pc cd (ip + 1) = z_pc cd ip + 1) (h : z_G p l e R s mt args below meth c Q D A sa ad0 n0 nf nL (z_pc cd) (ip + 1) lv (.int x.toInt8.toInt32 :: r) m) : z_G p l e R s mt args below meth c Q D A sa ad0 n0 nf nL (z_pc cd) ip lv (.int x :: r) m := by
  refine zs_step (fun ho hv => ?_) (fun ad H locs ls hl k => ?_) h
  · simp [z_okv] at ho ⊢; exact ho
  · rw [hn] at k
    exact lv_i2b C.1 C.2.1 hd rfl k
theorem zs_i2s (C : z_Cx p s mt args meth c own cc nL ini rt) {ip : Nat} {lv : zL} {r : List Value} {m : zM} {x : Int32} (hd : decode cc (z_pc cd ip) = .ok (.i2s, 1)) (hn : z_pc cd (ip + 1) = z_pc cd ip + 1) (h : z_G p l e R s mt args below meth c Q D A sa ad0 n0 nf nL (z_pc cd) (ip + 1) lv (.int x.toInt16.toInt32 :: r) m) : z_G p l e R s mt args below meth c Q D A sa ad0 n0 nf nL (z_pc cd) ip lv (.int x :: r) m := by
  refine zs_step (fun ho hv => ?_) (fun ad H locs ls hl k => ?_) h
  · simp [z_okv] at ho ⊢; exact ho
  · rw [hn] at k
    exact lv_i2s C.1 C.2.1 hd rfl k
theorem zs_icmp_eq (C : z_Cx p s mt args meth c own cc nL ini rt) {ip : Nat} {lv : zL} {r : List Value} {m : zM} {off t : Int} {y x : Int32} (hd : decode cc (z_pc cd ip) = .ok (.if_icmp .eq off, 3)) (hj : z_jp cd (z_pc cd ip) off t = true) (hn : z_pc cd (ip + 1) = z_pc cd ip + 3) (h : if x = y then z_G p l e R s mt args below meth c Q D A sa ad0 n0 nf nL (z_pc cd) t.toNat lv r m else z_G p l e R s mt args below meth c Q D A sa ad0 n0 nf nL (z_pc cd) (ip + 1) lv r m) : z_G p l e R s mt args below meth c Q D A sa ad0 n0 nf nL (z_pc cd) ip lv (.int y :: .int x :: r) m := by
  refine zs_if (st' := r) (fun ho => ?_) (fun ad H locs ls k1 k2 => ?_) h
  · simp [z_okv] at ho ⊢; exact ho
  · rw [hn] at k2
    exact lv_icmp_eq C.1 C.2.1 hd (z_jp_eq hj) (fun q => k1 q) (fun q => k2 q)
theorem zs_if_eq (C : z_Cx p s mt args meth c own cc nL ini rt) {ip : Nat} {lv : zL} {r : List Value} {m : zM} {off t : Int} {x : Int32} (hd : decode cc (z_pc cd ip) = .ok (.ifCond .eq off, 3)) (hj : z_jp cd (z_pc cd ip) off t = true) (hn : z_pc cd (ip + 1) = z_pc cd ip + 3) (h : if x = 0 then z_G p l e R s mt args below meth c Q D A sa ad0 n0 nf nL (z_pc cd) t.toNat lv r m else z_G p l e R s mt args below meth c Q D A sa ad0 n0 nf nL (z_pc cd) (ip + 1) lv r m) : z_G p l e R s mt args below meth c Q D A sa ad0 n0 nf nL (z_pc cd) ip lv (.int x :: r) m := by
  refine zs_if (st' := r) (fun ho => ?_) (fun ad H locs ls k1 k2 => ?_) h
  · simp [z_okv] at ho ⊢; exact ho
  · rw [hn] at k2
    exact lv_if_eq C.1 C.2.1 hd (z_jp_eq hj) (fun q => k1 q) (fun q => k2 q)
theorem zs_icmp_lt (C : z_Cx p s mt args meth c own cc nL ini rt) {ip : Nat} {lv : zL} {r : List Value} {m : zM} {off t : Int} {y x : Int32} (hd : decode cc (z_pc cd ip) = .ok (.if_icmp .lt off, 3)) (hj : z_jp cd (z_pc cd ip) off t = true) (hn : z_pc cd (ip + 1) = z_pc cd ip + 3) (h : if x < y then z_G p l e R s mt args below meth c Q D A sa ad0 n0 nf nL (z_pc cd) t.toNat lv r m else z_G p l e R s mt args below meth c Q D A sa ad0 n0 nf nL (z_pc cd) (ip + 1) lv r m) : z_G p l e R s mt args below meth c Q D A sa ad0 n0 nf nL (z_pc cd) ip lv (.int y :: .int x :: r) m := by
  refine zs_if (st' := r) (fun ho => ?_) (fun ad H locs ls k1 k2 => ?_) h
  · simp [z_okv] at ho ⊢; exact ho
  · rw [hn] at k2
    exact lv_icmp_lt C.1 C.2.1 hd (z_jp_eq hj) (fun q => k1 q) (fun q => k2 q)
theorem zs_if_lt (C : z_Cx p s mt args meth c own cc nL ini rt) {ip : Nat} {lv : zL} {r : List Value} {m : zM} {off t : Int} {x : Int32} (hd : decode cc (z_pc cd ip) = .ok (.ifCond .lt off, 3)) (hj : z_jp cd (z_pc cd ip) off t = true) (hn : z_pc cd (ip + 1) = z_pc cd ip + 3) (h : if x < 0 then z_G p l e R s mt args below meth c Q D A sa ad0 n0 nf nL (z_pc cd) t.toNat lv r m else z_G p l e R s mt args below meth c Q D A sa ad0 n0 nf nL (z_pc cd) (ip + 1) lv r m) : z_G p l e R s mt args below meth c Q D A sa ad0 n0 nf nL (z_pc cd) ip lv (.int x :: r) m := by
  refine zs_if (st' := r) (fun ho => ?_) (fun ad H locs ls k1 k2 => ?_) h
  · simp [z_okv] at ho ⊢; exact ho
  · rw [hn] at k2
    exact lv_if_lt C.1 C.2.1 hd (z_jp_eq hj) (fun q => k1 q) (fun q => k2 q)
theorem zs_icmp_ge (C : z_Cx p s mt args meth c own cc nL ini rt) {ip : Nat} {lv : zL} {r : List Value} {m : zM} {off t : Int} {y x : Int32} (hd : decode cc (z_pc cd ip) = .ok (.if_icmp .ge off, 3)) (hj : z_jp cd (z_pc cd ip) off t = true) (hn : z_pc cd (ip + 1) = z_pc cd ip + 3) (h : if y ≤ x then z_G p l e R s mt args below meth c Q D A sa ad0 n0 nf nL (z_pc cd) t.toNat lv r m else z_G p l e R s mt args below meth c Q D A sa ad0 n0 nf nL (z_pc cd) (ip + 1) lv r m) : z_G p l e R s mt args below meth c Q D A sa ad0 n0 nf nL (z_pc cd) ip lv (.int y :: .int x :: r) m := by
  refine zs_if (st' := r) (fun ho => ?_) (fun ad H locs ls k1 k2 => ?_) h
  · simp [z_okv] at ho ⊢; exact ho
  · rw [hn] at k2
    exact lv_icmp_ge C.1 C.2.1 hd (z_jp_eq hj) (fun q => k1 q) (fun q => k2 q)
theorem zs_if_ge (C : z_Cx p s mt args meth c own cc nL ini rt) {ip : Nat} {lv : zL} {r : List Value} {m : zM} {off t : Int} {x : Int32} (hd : decode cc (z_pc cd ip) = .ok (.ifCond .ge off, 3)) (hj : z_jp cd (z_pc cd ip) off t = true) (hn : z_pc cd (ip + 1) = z_pc cd ip + 3) (h : if 0 ≤ x then z_G p l e R s mt args below meth c Q D A sa ad0 n0 nf nL (z_pc cd) t.toNat lv r m else z_G p l e R s mt args below meth c Q D A sa ad0 n0 nf nL (z_pc cd) (ip + 1) lv r m) : z_G p l e R s mt args below meth c Q D A sa ad0 n0 nf nL (z_pc cd) ip lv (.int x :: r) m := by
  refine zs_if (st' := r) (fun ho => ?_) (fun ad H locs ls k1 k2 => ?_) h
  · simp [z_okv] at ho ⊢; exact ho
  · rw [hn] at k2
    exact lv_if_ge C.1 C.2.1 hd (z_jp_eq hj) (fun q => k1 q) (fun q => k2 q)
theorem zs_icmp_gt (C : z_Cx p s mt args meth c own cc nL ini rt) {ip : Nat} {lv : zL} {r : List Value} {m : zM} {off t : Int} {y x : Int32} (hd : decode cc (z_pc cd ip) = .ok (.if_icmp .gt off, 3)) (hj : z_jp cd (z_pc cd ip) off t = true) (hn : z_pc cd (ip + 1) = z_pc cd ip + 3) (h : if y < x then z_G p l e R s mt args below meth c Q D A sa ad0 n0 nf nL (z_pc cd) t.toNat lv r m else z_G p l e R s mt args below meth c Q D A sa ad0 n0 nf nL (z_pc cd) (ip + 1) lv r m) : z_G p l e R s mt args below meth c Q D A sa ad0 n0 nf nL (z_pc cd) ip lv (.int y :: .int x :: r) m := by
  refine zs_if (st' := r) (fun ho => ?_) (fun ad H locs ls k1 k2 => ?_) h
  · simp [z_okv] at ho ⊢; exact ho
  · rw [hn] at k2
    exact lv_icmp_gt C.1 C.2.1 hd (z_jp_eq hj) (fun q => k1 q) (fun q => k2 q)
theorem zs_if_gt (C : z_Cx p s mt args meth c own cc nL ini rt) {ip : Nat} {lv : zL} {r : List Value} {m : zM} {off t : Int} {x : Int32} (hd : decode cc (z_pc cd ip) = .ok (.ifCond .gt off, 3)) (hj : z_jp cd (z_pc cd ip) off t = true) (hn : z_pc cd (ip + 1) = z_pc cd ip + 3) (h : if 0 < x then z_G p l e R s mt args below meth c Q D A sa ad0 n0 nf nL (z_pc cd) t.toNat lv r m else z_G p l e R s mt args below meth c Q D A sa ad0 n0 nf nL (z_pc cd) (ip + 1) lv r m) : z_G p l e R s mt args below meth c Q D A sa ad0 n0 nf nL (z_pc cd) ip lv (.int x :: r) m := by
  refine zs_if (st' := r) (fun ho => ?_) (fun ad H locs ls k1 k2 => ?_) h
  · simp [z_okv] at ho ⊢; exact ho
  · rw [hn] at k2
    exact lv_if_gt C.1 C.2.1 hd (z_jp_eq hj) (fun q => k1 q) (fun q => k2 q)
theorem zs_icmp_le (C : z_Cx p s mt args meth c own cc nL ini rt) {ip : Nat} {lv : zL} {r : List Value} {m : zM} {off t : Int} {y x : Int32} (hd : decode cc (z_pc cd ip) = .ok (.if_icmp .le off, 3)) (hj : z_jp cd (z_pc cd ip) off t = true) (hn : z_pc cd (ip + 1) = z_pc cd ip + 3) (h : if x ≤ y then z_G p l e R s mt args below meth c Q D A sa ad0 n0 nf nL (z_pc cd) t.toNat lv r m else z_G p l e R s mt args below meth c Q D A sa ad0 n0 nf nL (z_pc cd) (ip + 1) lv r m) : z_G p l e R s mt args below meth c Q D A sa ad0 n0 nf nL (z_pc cd) ip lv (.int y :: .int x :: r) m := by
  refine zs_if (st' := r) (fun ho => ?_) (fun ad H locs ls k1 k2 => ?_) h
  · simp [z_okv] at ho ⊢; exact ho
  · rw [hn] at k2
    exact lv_icmp_le C.1 C.2.1 hd (z_jp_eq hj) (fun q => k1 q) (fun q => k2 q)
theorem zs_if_le (C : z_Cx p s mt args meth c own cc nL ini rt) {ip : Nat} {lv : zL} {r : List Value} {m : zM} {off t : Int} {x : Int32} (hd : decode cc (z_pc cd ip) = .ok (.ifCond .le off, 3)) (hj : z_jp cd (z_pc cd ip) off t = true) (hn : z_pc cd (ip + 1) = z_pc cd ip + 3) (h : if x ≤ 0 then z_G p l e R s mt args below meth c Q D A sa ad0 n0 nf nL (z_pc cd) t.toNat lv r m else z_G p l e R s mt args below meth c Q D A sa ad0 n0 nf nL (z_pc cd) (ip + 1) lv r m) : z_G p l e R s mt args below meth c Q D A sa ad0 n0 nf nL (z_pc cd) ip lv (.int x :: r) m := by
  refine zs_if (st' := r) (fun ho => ?_) (fun ad H locs ls k1 k2 => ?_) h
  · simp [z_okv] at ho ⊢; exact ho
  · rw [hn] at k2
    exact lv_if_le C.1 C.2.1 hd (z_jp_eq hj) (fun q => k1 q) (fun q => k2 q)
theorem zs_icmp_ne (C : z_Cx p s mt args meth c own cc nL ini rt) {ip : Nat} {lv : zL} {r : List Value} {m : zM} {off t : Int} {y x : Int32} (hd : decode cc (z_pc cd ip) = .ok (.if_icmp .ne off, 3)) (hj : z_jp cd (z_pc cd ip) off t = true) (hn : z_pc cd (ip + 1) = z_pc cd ip + 3) (h : if x = y then z_G p l e R s mt args below meth c Q D A sa ad0 n0 nf nL (z_pc cd) (ip + 1) lv r m else z_G p l e R s mt args below meth c Q D A sa ad0 n0 nf nL (z_pc cd) t.toNat lv r m) : z_G p l e R s mt args below meth c Q D A sa ad0 n0 nf nL (z_pc cd) ip lv (.int y :: .int x :: r) m := by
  refine zs_ifN (st' := r) (fun ho => ?_) (fun ad H locs ls k1 k2 => ?_) h
  · simp [z_okv] at ho ⊢; exact ho
  · rw [hn] at k2
    exact lv_icmp_ne C.1 C.2.1 hd (z_jp_eq hj) (fun q => k1 q) (fun q => k2 q)
theorem zs_if_ne (C : z_Cx p s mt args meth c own cc nL ini rt) {ip : Nat} {lv : zL} {r : List Value} {m : zM} {off t : Int} {x : Int32} (hd : decode cc (z_pc cd ip) = .ok (.ifCond .ne off, 3)) (hj : z_jp cd (z_pc cd ip) off t = true) (hn : z_pc cd (ip + 1) = z_pc cd ip + 3) (h : if x = 0 then z_G p l e R s mt args below meth c Q D A sa ad0 n0 nf nL (z_pc cd) (ip + 1) lv r m else z_G p l e R s mt args below meth c Q D A sa ad0 n0 nf nL (z_pc cd) t.toNat lv r m) : z_G p l e R s mt args below meth c Q D A sa ad0 n0 nf nL (z_pc cd) ip lv (.int x :: r) m := by
  refine zs_ifN (st' := r) (fun ho => ?_) (fun ad H locs ls k1 k2 => ?_) h
  · simp [z_okv] at ho ⊢; exact ho
  · rw [hn] at k2
    exact lv_if_ne C.1 C.2.1 hd (z_jp_eq hj) (fun q => k1 q) (fun q => k2 q)
end ZS
end
section
/-! constants, locals, gotos, switches -/
section ZS

variable {p : Program} {l : Launch} {e : Env} {R : Room} {s : State} {mt : MethodId} {args : Array Value} {below : List Frame} {meth : Method} {c : Code} {Q : State → Prop} {D : va_G} {A : Nat → Prop} {sa sv ad0 : Nat → Nat} {n0 nf nL : Nat} {cd : List zI} {own : String} {cc : ByteArray} {ini : Bool} {rt : Option FieldType}

theorem zs_iload (C : z_Cx p s mt args meth c own cc nL ini rt) {ip k len : Nat} {raw : Instr} {lv : zL} {st : List Value} {m : zM} {x : Int32} (hd : decode cc (z_pc cd ip) = .ok (raw, len)) (hn : z_pc cd (ip + 1) = z_pc cd ip + len) (hr : (raw = .iload k ∧ len = 2) ∨ ∃ i : Fin 4, raw = .iload_n i ∧ (i : Nat) = k ∧ len = 1) (hx : z_at lv k = some (.int x)) (h : z_G p l e R s mt args below meth c Q D A sa ad0 n0 nf nL (z_pc cd) (ip + 1) lv (.int x :: st) m) : z_G p l e R s mt args below meth c Q D A sa ad0 n0 nf nL (z_pc cd) ip lv st m := by
  refine zs_step (fun ho hv => ?_) (fun ad H locs ls hl kk => ?_) h
  · simp [z_okv] at ho ⊢; exact ho
  · rw [hn] at kk
    rcases hr with ⟨rfl, rfl⟩ | ⟨i, rfl, hi, rfl⟩
    · exact lv_iload C.1 C.2.1 hd (hl.2.2.2 k _ hx) kk
    · exact lv_iload_n C.1 C.2.1 hd hi (hl.2.2.2 k _ hx) kk
theorem zs_lload (C : z_Cx p s mt args meth c own cc nL ini rt) {ip k len : Nat} {raw : Instr} {lv : zL} {st : List Value} {m : zM} {x : Int64} (hd : decode cc (z_pc cd ip) = .ok (raw, len)) (hn : z_pc cd (ip + 1) = z_pc cd ip + len) (hr : (raw = .lload k ∧ len = 2) ∨ ∃ i : Fin 4, raw = .lload_n i ∧ (i : Nat) = k ∧ len = 1) (hx : z_at lv k = some (.long x)) (h : z_G p l e R s mt args below meth c Q D A sa ad0 n0 nf nL (z_pc cd) (ip + 1) lv (.long x :: st) m) : z_G p l e R s mt args below meth c Q D A sa ad0 n0 nf nL (z_pc cd) ip lv st m := by
  refine zs_step (fun ho hv => ?_) (fun ad H locs ls hl kk => ?_) h
  · simp [z_okv] at ho ⊢; exact ho
  · rw [hn] at kk
    rcases hr with ⟨rfl, rfl⟩ | ⟨i, rfl, hi, rfl⟩
    · exact lv_lload C.1 C.2.1 hd (hl.2.2.2 k _ hx) kk
    · exact lv_lload_n C.1 C.2.1 hd hi (hl.2.2.2 k _ hx) kk
theorem zs_aload (C : z_Cx p s mt args meth c own cc nL ini rt) {ip k len : Nat} {raw : Instr} {lv : zL} {st : List Value} {m : zM} {x : Nat} (hd : decode cc (z_pc cd ip) = .ok (raw, len)) (hn : z_pc cd (ip + 1) = z_pc cd ip + len) (hr : (raw = .aload k ∧ len = 2) ∨ ∃ i : Fin 4, raw = .aload_n i ∧ (i : Nat) = k ∧ len = 1) (hx : z_at lv k = some (.ref x)) (h : z_G p l e R s mt args below meth c Q D A sa ad0 n0 nf nL (z_pc cd) (ip + 1) lv (.ref x :: st) m) : z_G p l e R s mt args below meth c Q D A sa ad0 n0 nf nL (z_pc cd) ip lv st m := by
  refine zs_step (fun ho hv => ?_) (fun ad H locs ls hl kk => ?_) h
  · intro v hv2
    rcases List.mem_cons.mp hv2 with rfl | q
    · exact hv k _ hx
    · exact ho v q
  · rw [hn] at kk
    rcases hr with ⟨rfl, rfl⟩ | ⟨i, rfl, hi, rfl⟩
    · exact lv_aload C.1 C.2.1 hd (hl.2.2.2 k _ hx) kk
    · exact lv_aload_n C.1 C.2.1 hd hi (hl.2.2.2 k _ hx) kk
theorem zs_aloadN (C : z_Cx p s mt args meth c own cc nL ini rt) {ip k len : Nat} {raw : Instr} {lv : zL} {st : List Value} {m : zM} (hd : decode cc (z_pc cd ip) = .ok (raw, len)) (hn : z_pc cd (ip + 1) = z_pc cd ip + len) (hr : (raw = .aload k ∧ len = 2) ∨ ∃ i : Fin 4, raw = .aload_n i ∧ (i : Nat) = k ∧ len = 1) (hx : z_at lv k = some .null) (h : z_G p l e R s mt args below meth c Q D A sa ad0 n0 nf nL (z_pc cd) (ip + 1) lv (.null :: st) m) : z_G p l e R s mt args below meth c Q D A sa ad0 n0 nf nL (z_pc cd) ip lv st m := by
  refine zs_step (fun ho hv => ?_) (fun ad H locs ls hl kk => ?_) h
  · simp [z_okv] at ho ⊢; exact ho
  · rw [hn] at kk
    rcases hr with ⟨rfl, rfl⟩ | ⟨i, rfl, hi, rfl⟩
    · exact lv_aloadN C.1 C.2.1 hd (hl.2.2.2 k _ hx) kk
    · exact lv_aload_nN C.1 C.2.1 hd hi (hl.2.2.2 k _ hx) kk
theorem zs_istore (C : z_Cx p s mt args meth c own cc nL ini rt) {ip k len : Nat} {raw : Instr} {lv : zL} {r : List Value} {m : zM} {x : Int32} (hd : decode cc (z_pc cd ip) = .ok (raw, len)) (hn : z_pc cd (ip + 1) = z_pc cd ip + len) (hk : k < nL) (hr : (raw = .istore k ∧ len = 2) ∨ ∃ i : Fin 4, raw = .istore_n i ∧ (i : Nat) = k ∧ len = 1) (h : z_G p l e R s mt args below meth c Q D A sa ad0 n0 nf nL (z_pc cd) (ip + 1) (z_s1 lv k (.int x)) r m) : z_G p l e R s mt args below meth c Q D A sa ad0 n0 nf nL (z_pc cd) ip lv (.int x :: r) m := by
  refine ⟨h.1, fun ad ac tys H locs ls hSt hl ho hv => ?_⟩
  have ho1 : ∀ v ∈ r, z_okv m.1 v := fun v q => ho v (List.mem_cons_of_mem _ q)
  have h1 := fun ls' hl' => h.2 ad ac tys H locs ls' hSt hl' ho1 (z_ok_s1 (by rw [hl.2.2.1]; exact hk) (ho _ List.mem_cons_self) hv)
  rw [hn] at h1
  rcases hr with ⟨rfl, rfl⟩ | ⟨i, rfl, hi, rfl⟩
  · exact lv_istore C.1 C.2.1 hd (z_ll_has hl) hk rfl (fun ls' hl' => h1 ls' (z_lv_s1 hl hk hl'))
  · exact lv_istore_n C.1 C.2.1 hd hi (z_ll_has hl) hk rfl (fun ls' hl' => h1 ls' (z_lv_s1 hl hk hl'))
theorem zs_lstore (C : z_Cx p s mt args meth c own cc nL ini rt) {ip k len : Nat} {raw : Instr} {lv : zL} {r : List Value} {m : zM} {x : Int64} (hd : decode cc (z_pc cd ip) = .ok (raw, len)) (hn : z_pc cd (ip + 1) = z_pc cd ip + len) (hk : k + 1 < nL) (hr : (raw = .lstore k ∧ len = 2) ∨ ∃ i : Fin 4, raw = .lstore_n i ∧ (i : Nat) = k ∧ len = 1) (h : z_G p l e R s mt args below meth c Q D A sa ad0 n0 nf nL (z_pc cd) (ip + 1) (z_s2 lv k (.long x)) r m) : z_G p l e R s mt args below meth c Q D A sa ad0 n0 nf nL (z_pc cd) ip lv (.long x :: r) m := by
  refine ⟨h.1, fun ad ac tys H locs ls hSt hl ho hv => ?_⟩
  have ho1 : ∀ v ∈ r, z_okv m.1 v := fun v q => ho v (List.mem_cons_of_mem _ q)
  have h1 := fun ls' hl' => h.2 ad ac tys H locs ls' hSt hl' ho1 (z_ok_s2 (by rw [hl.2.2.1]; exact hk) (ho _ List.mem_cons_self) hv)
  rw [hn] at h1
  rcases hr with ⟨rfl, rfl⟩ | ⟨i, rfl, hi, rfl⟩
  · exact lv_lstore C.1 C.2.1 hd (z_ll_has hl) hk rfl (fun ls' hl' => h1 ls' (z_lv_s2 hl hk hl'))
  · exact lv_lstore_n C.1 C.2.1 hd hi (z_ll_has hl) hk rfl (fun ls' hl' => h1 ls' (z_lv_s2 hl hk hl'))
theorem zs_astore (C : z_Cx p s mt args meth c own cc nL ini rt) {ip k len : Nat} {raw : Instr} {lv : zL} {r : List Value} {m : zM} {x : Nat} (hd : decode cc (z_pc cd ip) = .ok (raw, len)) (hn : z_pc cd (ip + 1) = z_pc cd ip + len) (hk : k < nL) (hr : (raw = .astore k ∧ len = 2) ∨ ∃ i : Fin 4, raw = .astore_n i ∧ (i : Nat) = k ∧ len = 1) (h : z_G p l e R s mt args below meth c Q D A sa ad0 n0 nf nL (z_pc cd) (ip + 1) (z_s1 lv k (.ref x)) r m) : z_G p l e R s mt args below meth c Q D A sa ad0 n0 nf nL (z_pc cd) ip lv (.ref x :: r) m := by
  refine ⟨h.1, fun ad ac tys H locs ls hSt hl ho hv => ?_⟩
  have ho1 : ∀ v ∈ r, z_okv m.1 v := fun v q => ho v (List.mem_cons_of_mem _ q)
  have h1 := fun ls' hl' => h.2 ad ac tys H locs ls' hSt hl' ho1 (z_ok_s1 (by rw [hl.2.2.1]; exact hk) (ho _ List.mem_cons_self) hv)
  rw [hn] at h1
  rcases hr with ⟨rfl, rfl⟩ | ⟨i, rfl, hi, rfl⟩
  · exact lv_astore C.1 C.2.1 hd (z_ll_has hl) hk rfl (fun ls' hl' => h1 ls' (z_lv_s1 hl hk hl'))
  · exact lv_astore_n C.1 C.2.1 hd hi (z_ll_has hl) hk rfl (fun ls' hl' => h1 ls' (z_lv_s1 hl hk hl'))
theorem zs_astoreN (C : z_Cx p s mt args meth c own cc nL ini rt) {ip k len : Nat} {raw : Instr} {lv : zL} {r : List Value} {m : zM}  (hd : decode cc (z_pc cd ip) = .ok (raw, len)) (hn : z_pc cd (ip + 1) = z_pc cd ip + len) (hk : k < nL) (hr : (raw = .astore k ∧ len = 2) ∨ ∃ i : Fin 4, raw = .astore_n i ∧ (i : Nat) = k ∧ len = 1) (h : z_G p l e R s mt args below meth c Q D A sa ad0 n0 nf nL (z_pc cd) (ip + 1) (z_s1 lv k (.null)) r m) : z_G p l e R s mt args below meth c Q D A sa ad0 n0 nf nL (z_pc cd) ip lv (.null :: r) m := by
  refine ⟨h.1, fun ad ac tys H locs ls hSt hl ho hv => ?_⟩
  have ho1 : ∀ v ∈ r, z_okv m.1 v := fun v q => ho v (List.mem_cons_of_mem _ q)
  have h1 := fun ls' hl' => h.2 ad ac tys H locs ls' hSt hl' ho1 (z_ok_s1 (by rw [hl.2.2.1]; exact hk) (ho _ List.mem_cons_self) hv)
  rw [hn] at h1
  rcases hr with ⟨rfl, rfl⟩ | ⟨i, rfl, hi, rfl⟩
  · exact lv_astoreN C.1 C.2.1 hd (z_ll_has hl) hk rfl (fun ls' hl' => h1 ls' (z_lv_s1 hl hk hl'))
  · exact lv_astore_nN C.1 C.2.1 hd hi (z_ll_has hl) hk rfl (fun ls' hl' => h1 ls' (z_lv_s1 hl hk hl'))
theorem zs_iinc (C : z_Cx p s mt args meth c own cc nL ini rt) {ip k : Nat} {n : Int} {lv : zL} {st : List Value} {m : zM} {x : Int32} (hd : decode cc (z_pc cd ip) = .ok (.iinc k n, 3)) (hn : z_pc cd (ip + 1) = z_pc cd ip + 3) (hk : k < nL) (hx : z_at lv k = some (.int x)) (h : z_G p l e R s mt args below meth c Q D A sa ad0 n0 nf nL (z_pc cd) (ip + 1) (z_s1 lv k (.int (x + Int32.ofInt n))) st m) : z_G p l e R s mt args below meth c Q D A sa ad0 n0 nf nL (z_pc cd) ip lv st m := by
  refine ⟨h.1, fun ad ac tys H locs ls hSt hl ho hv => ?_⟩
  have h1 := fun ls' hl' => h.2 ad ac tys H locs ls' hSt hl' ho (z_ok_s1 (by rw [hl.2.2.1]; exact hk) (by simp [z_okv]) hv)
  rw [hn] at h1
  have hm : (k, Value.int x) ∈ z_ll ad sa lv := z_ll_mem (ad := ad) (sa := sa) hx
  obtain ⟨q, hq⟩ := List.mem_iff_getElem?.mp hm
  exact lv_iinc C.1 C.2.1 hd (z_ll_has hl) hq rfl hk rfl (fun ls' hl' => h1 ls' (z_lv_s1 hl hk hl'))
theorem zs_iconst (C : z_Cx p s mt args meth c own cc nL ini rt) {ip len pl : Nat} {n : Int} {raw : Instr} {lv : zL} {st : List Value} {m : zM} (hd : decode cc (z_pc cd ip) = .ok (raw, len)) (hok : z_okI own nL ini rt cd ip (z_pc cd ip) pl (.iconst n) raw len = true) (h : z_G p l e R s mt args below meth c Q D A sa ad0 n0 nf nL (z_pc cd) (ip + 1) lv (.int (Int32.ofInt n) :: st) m) : z_G p l e R s mt args below meth c Q D A sa ad0 n0 nf nL (z_pc cd) ip lv st m := by
  refine zs_step (fun ho hv => ?_) (fun ad H locs ls hl kk => ?_) h
  · simp [z_okv] at ho ⊢; exact ho
  · simp only [z_okI, Bool.and_eq_true, decide_eq_true_eq] at hok
    obtain ⟨hn, hr⟩ := hok
    rw [hn] at kk
    cases raw <;> simp only [Bool.false_eq_true, Bool.and_eq_true, decide_eq_true_eq] at hr
    · obtain ⟨rfl, hv⟩ := hr; exact lv_bipush C.1 C.2.1 hd hv kk
    · obtain ⟨rfl, hv⟩ := hr; exact lv_iconst C.1 C.2.1 hd hv kk
    · obtain ⟨rfl, hv⟩ := hr; exact lv_ldc C.1 C.2.1 C.2.2.2.2.1 (C.2.2.2.2.2.1 _ (z_word hv)) hd kk
    · obtain ⟨rfl, hv⟩ := hr; exact lv_ldcw C.1 C.2.1 C.2.2.2.2.1 (C.2.2.2.2.2.1 _ (z_word hv)) hd kk
    · obtain ⟨rfl, hv⟩ := hr; exact lv_sipush C.1 C.2.1 hd hv kk
theorem zs_lconst (C : z_Cx p s mt args meth c own cc nL ini rt) {ip len pl k : Nat} {raw : Instr} {lv : zL} {st : List Value} {m : zM} (hd : decode cc (z_pc cd ip) = .ok (raw, len)) (hok : z_okI own nL ini rt cd ip (z_pc cd ip) pl (.ldc2_w k) raw len = true) (h : z_G p l e R s mt args below meth c Q D A sa ad0 n0 nf nL (z_pc cd) (ip + 1) lv (.long (z_kl k) :: st) m) : z_G p l e R s mt args below meth c Q D A sa ad0 n0 nf nL (z_pc cd) ip lv st m := by
  refine zs_step (fun ho hv => ?_) (fun ad H locs ls hl kk => ?_) h
  · simp [z_okv] at ho ⊢; exact ho
  · simp only [z_okI, Bool.and_eq_true, decide_eq_true_eq] at hok
    obtain ⟨hn, hr⟩ := hok
    rw [hn] at kk
    cases raw <;> simp only [Bool.false_eq_true, Bool.and_eq_true, decide_eq_true_eq] at hr
    · obtain ⟨rfl, hv⟩ := hr; exact lv_lconst C.1 C.2.1 hd hv kk
    · obtain ⟨rfl, hv⟩ := hr; exact lv_ldc2 C.1 C.2.1 C.2.2.2.2.1 (C.2.2.2.2.2.1 _ (z_word hv)) hd kk
theorem zs_goto (C : z_Cx p s mt args meth c own cc nL ini rt) {ip : Nat} {off t : Int} {lv : zL} {st : List Value} {m : zM} (hd : decode cc (z_pc cd ip) = .ok (.goto off, 3)) (hj : z_jp cd (z_pc cd ip) off t = true) (h : z_G p l e R s mt args below meth c Q D A sa ad0 n0 nf nL (z_pc cd) t.toNat lv st m) : z_G p l e R s mt args below meth c Q D A sa ad0 n0 nf nL (z_pc cd) ip lv st m :=
  zs_step (fun ho hv => ho) (fun ad H locs ls hl kk => lv_goto C.1 C.2.1 hd (z_jp_eq hj) kk) h
theorem zs_ifnn (C : z_Cx p s mt args meth c own cc nL ini rt) {ip : Nat} {off t : Int} {lv : zL} {r : List Value} {m : zM} {x : Nat} (hd : decode cc (z_pc cd ip) = .ok (.ifnonnull off, 3)) (hj : z_jp cd (z_pc cd ip) off t = true) (h : z_G p l e R s mt args below meth c Q D A sa ad0 n0 nf nL (z_pc cd) t.toNat lv r m) : z_G p l e R s mt args below meth c Q D A sa ad0 n0 nf nL (z_pc cd) ip lv (.ref x :: r) m :=
  zs_step (fun ho hv v q => ho v (List.mem_cons_of_mem _ q)) (fun ad H locs ls hl kk => lv_ifnonnull C.1 C.2.1 hd (z_jp_eq hj) kk) h
theorem zs_ifnnN (C : z_Cx p s mt args meth c own cc nL ini rt) {ip : Nat} {off : Int} {lv : zL} {r : List Value} {m : zM} (hd : decode cc (z_pc cd ip) = .ok (.ifnonnull off, 3)) (hn : z_pc cd (ip + 1) = z_pc cd ip + 3) (h : z_G p l e R s mt args below meth c Q D A sa ad0 n0 nf nL (z_pc cd) (ip + 1) lv r m) : z_G p l e R s mt args below meth c Q D A sa ad0 n0 nf nL (z_pc cd) ip lv (.null :: r) m :=
  zs_step (fun ho hv v q => ho v (List.mem_cons_of_mem _ q)) (fun ad H locs ls hl kk => lv_ifnonnullN C.1 C.2.1 hd (by rw [hn] at kk; exact kk)) h
theorem zs_dup (C : z_Cx p s mt args meth c own cc nL ini rt) {ip : Nat} {lv : zL} {r : List Value} {m : zM} {v : Value} (hc : v.category = 1) (hd : decode cc (z_pc cd ip) = .ok (.dup, 1)) (hn : z_pc cd (ip + 1) = z_pc cd ip + 1) (h : z_G p l e R s mt args below meth c Q D A sa ad0 n0 nf nL (z_pc cd) (ip + 1) lv (v :: v :: r) m) : z_G p l e R s mt args below meth c Q D A sa ad0 n0 nf nL (z_pc cd) ip lv (v :: r) m := by
  refine zs_step (fun ho hv => ?_) (fun ad H locs ls hl kk => ?_) h
  · intro w hw
    rcases List.mem_cons.mp hw with rfl | q
    · exact ho _ List.mem_cons_self
    · exact ho w q
  · rw [hn] at kk
    exact lv_dup C.1 C.2.1 hd (by rw [z_tr_cat]; exact hc) kk
theorem zs_dup2 (C : z_Cx p s mt args meth c own cc nL ini rt) {ip : Nat} {lv : zL} {r : List Value} {m : zM} {v w : Value} (hc : v.category = 1) (hc2 : w.category = 1) (hd : decode cc (z_pc cd ip) = .ok (.dup2, 1)) (hn : z_pc cd (ip + 1) = z_pc cd ip + 1) (h : z_G p l e R s mt args below meth c Q D A sa ad0 n0 nf nL (z_pc cd) (ip + 1) lv (v :: w :: v :: w :: r) m) : z_G p l e R s mt args below meth c Q D A sa ad0 n0 nf nL (z_pc cd) ip lv (v :: w :: r) m := by
  refine zs_step (fun ho hv => ?_) (fun ad H locs ls hl kk => ?_) h
  · intro u hu
    rcases List.mem_cons.mp hu with rfl | q
    · exact ho _ List.mem_cons_self
    · rcases List.mem_cons.mp q with rfl | q
      · exact ho _ (List.mem_cons_of_mem _ List.mem_cons_self)
      · exact ho u q
  · rw [hn] at kk
    exact lv_dup2_11 C.1 C.2.1 hd (by rw [z_tr_cat]; exact hc) (by rw [z_tr_cat]; exact hc2) kk
theorem zs_popv (C : z_Cx p s mt args meth c own cc nL ini rt) {ip : Nat} {lv : zL} {r : List Value} {m : zM} {v : Value} (hc : v.category = 1) (hd : decode cc (z_pc cd ip) = .ok (.pop, 1)) (hn : z_pc cd (ip + 1) = z_pc cd ip + 1) (h : z_G p l e R s mt args below meth c Q D A sa ad0 n0 nf nL (z_pc cd) (ip + 1) lv r m) : z_G p l e R s mt args below meth c Q D A sa ad0 n0 nf nL (z_pc cd) ip lv (v :: r) m := by
  refine zs_step (fun ho hv w q => ho w (List.mem_cons_of_mem _ q)) (fun ad H locs ls hl kk => ?_) h
  rw [hn] at kk
  exact lv_pop C.1 C.2.1 hd (by rw [z_tr_cat]; exact hc) kk
theorem z_tsw_out {x : Int} : ∀ {lo : Int} {ts : List Int} {k : Int → Prop} {d : Prop}, (x < lo ∨ lo + ts.length ≤ x) → z_tsw x lo ts k d → d
  | _, [], _, _, _, h => h
  | lo, t :: ts, k, d, hx, h => by
    simp only [List.length_cons] at hx
    simp only [z_tsw] at h
    have e : ¬ x = lo := by omega
    rw [if_neg e] at h
    exact z_tsw_out (lo := lo + 1) (by omega) h
theorem z_tsw_in {x : Int} : ∀ {lo : Int} {ts : List Int} {k : Int → Prop} {d : Prop} {t : Int}, lo ≤ x → ts[(x - lo).toNat]? = some t → z_tsw x lo ts k d → k t
  | lo, [], k, d, t, hx, ht, h => by simp at ht
  | lo, a :: ts, k, d, t, hx, ht, h => by
    simp only [z_tsw] at h
    by_cases e : x = lo
    · rw [if_pos e] at h
      have : (x - lo).toNat = 0 := by omega
      rw [this] at ht
      simp at ht
      subst ht
      exact h
    · rw [if_neg e] at h
      have : (x - lo).toNat = (x - (lo + 1)).toNat + 1 := by omega
      rw [this] at ht
      simp at ht
      exact z_tsw_in (lo := lo + 1) (by omega) ht h
theorem zs_table (C : z_Cx p s mt args meth c own cc nL ini rt) {ip len : Nat} {d lo hi d2 : Int} {ts os : Array Int} {lv : zL} {r : List Value} {m : zM} {x : Int32} (hd : decode cc (z_pc cd ip) = .ok (.tableswitch d2 lo hi os, len)) (hsz : os.size = ts.size) (hhi : hi + 1 = lo + ts.size) (hj : z_jp cd (z_pc cd ip) d2 d = true) (hall : ∀ i, i < ts.size → ∀ a b, os[i]? = some a → ts[i]? = some b → z_jp cd (z_pc cd ip) a b = true)
    (h : z_tsw x.toInt lo ts.toList (fun t => z_G p l e R s mt args below meth c Q D A sa ad0 n0 nf nL (z_pc cd) t.toNat lv r m) (z_G p l e R s mt args below meth c Q D A sa ad0 n0 nf nL (z_pc cd) d.toNat lv r m)) : z_G p l e R s mt args below meth c Q D A sa ad0 n0 nf nL (z_pc cd) ip lv (.int x :: r) m := by
  have hlen : (ts.toList.length : Int) = ts.size := by simp
  by_cases h1 : x.toInt < lo
  · exact zs_step (fun ho hv v q => ho v (List.mem_cons_of_mem _ q)) (fun ad H locs ls hl kk => lv_tableOut C.1 C.2.1 hd (Or.inl h1) (z_jp_eq hj) kk) (z_tsw_out (Or.inl h1) h)
  · by_cases h2 : hi < x.toInt
    · exact zs_step (fun ho hv v q => ho v (List.mem_cons_of_mem _ q)) (fun ad H locs ls hl kk => lv_tableOut C.1 C.2.1 hd (Or.inr h2) (z_jp_eq hj) kk) (z_tsw_out (Or.inr (by omega)) h)
    · have hi9 : (x.toInt - lo).toNat < ts.size := by omega
      have ht : ts[(x.toInt - lo).toNat]? = some ts[(x.toInt - lo).toNat] := Array.getElem?_eq_getElem hi9
      have hos : os[(x.toInt - lo).toNat]? = some os[(x.toInt - lo).toNat] := Array.getElem?_eq_getElem (by rw [hsz]; exact hi9)
      have ht2 : ts.toList[(x.toInt - lo).toNat]? = some ts[(x.toInt - lo).toNat] := by rw [Array.getElem?_toList]; exact ht
      exact zs_step (fun ho hv v q => ho v (List.mem_cons_of_mem _ q)) (fun ad H locs ls hl kk => lv_tableIn C.1 C.2.1 hd h1 h2 hos (z_jp_eq (hall _ hi9 _ _ hos ht)) kk) (z_tsw_in (by omega) ht2 h)
end ZS
end
section
/-! the classes' words; fields and arrays; new cells -/
def z_ins (ps : List Nat) (ws : List Cond) : Bool := decide (ws.length ≤ ps.length) && (List.zip ps ws).all (fun q => z_at1 q.1 q.2)
theorem z_ins_mem : ∀ {ps : List Nat} {ws : List Cond}, z_ins ps ws = true → ∀ w ∈ ws, w ∈ z_tb
  | _, [], _ => fun w h => absurd h List.not_mem_nil
  | [], _ :: _, h => by simp [z_ins] at h
  | a :: ps, w0 :: ws, h => by
    simp only [z_ins, List.length_cons, List.zip_cons_cons, List.all_cons, Bool.and_eq_true, decide_eq_true_eq] at h
    intro w hw
    rcases List.mem_cons.mp hw with rfl | q
    · exact z_word h.2.1
    · exact z_ins_mem (ps := ps) (ws := ws) (by simp only [z_ins, Bool.and_eq_true, decide_eq_true_eq]; exact ⟨by omega, h.2.2⟩) w q
def z_kty (kd : Nat) (t : FieldType) : Bool := match kd, t with
  | 0, .int => true
  | 1, .long => true
  | 2, .object _ => true
  | 2, .array _ => true
  | 3, .boolean => true
  | _, _ => false
/-- what is known of a class of the worlds -/
def z_CK (ci : Nat) (r : vw_C) : Prop := (∀ w ∈ u_ws r.1 r.2.1 r.2.2, w ∈ z_tb) ∧ (∃ ty0 : Nat → FieldType, (∀ k, k < r.2.2 → parseFieldDescriptor (r.2.1 k).2.2.1 = some (ty0 k)) ∧ ∀ k, k < r.2.2 → z_kty (z_fk ci k) (ty0 k) = true) ∧ (∀ a, a < r.2.2 → ∀ b, b < r.2.2 → a ≠ b → (r.2.1 a).2.1 ≠ (r.2.1 b).2.1) ∧
  Cond.instantiable r.1 r.2.2 ∈ z_tb ∧ Cond.initialized r.1 ∈ z_tb ∧ r.2.2 = z_nf ci
theorem z_ck0 : z_CK 0 (zR0, zT0, 12) := ⟨z_ins_mem (ps := [414, 416, 418, 420, 422, 424, 426, 428, 430, 432, 434, 436]) (by decide +kernel), ⟨zY0, by decide +kernel, by decide +kernel⟩, by decide +kernel, z_word (q := 392) (by decide +kernel), z_word (q := 114) (by decide +kernel), by decide +kernel⟩
theorem z_ck1 : z_CK 1 (zR1, zT1, 1) := ⟨z_ins_mem (ps := [326]) (by decide +kernel), ⟨zY1, by decide +kernel, by decide +kernel⟩, by decide +kernel, z_word (q := 320) (by decide +kernel), z_word (q := 113) (by decide +kernel), by decide +kernel⟩
theorem z_ck2 : z_CK 2 (zR2, zT2, 15) := ⟨z_ins_mem (ps := [360, 362, 364, 366, 368, 370, 372, 374, 376, 378, 380, 382, 384, 386, 388]) (by decide +kernel), ⟨zY2, by decide +kernel, by decide +kernel⟩, by decide +kernel, z_word (q := 283) (by decide +kernel), z_word (q := 111) (by decide +kernel), by decide +kernel⟩
theorem z_ck3 : z_CK 3 (zR3, zT3, 6) := ⟨z_ins_mem (ps := [304, 306, 308, 310, 312, 314]) (by decide +kernel), ⟨zY3, by decide +kernel, by decide +kernel⟩, by decide +kernel, z_word (q := 289) (by decide +kernel), z_word (q := 112) (by decide +kernel), by decide +kernel⟩
theorem z_ck4 : z_CK 4 (zR4, zT4, 1) := ⟨z_ins_mem (ps := [448]) (by decide +kernel), ⟨zY4, by decide +kernel, by decide +kernel⟩, by decide +kernel, z_word (q := 440) (by decide +kernel), z_word (q := 115) (by decide +kernel), by decide +kernel⟩
theorem z_ck5 : z_CK 5 (zR5, zT5, 13) := ⟨z_ins_mem (ps := [198, 200, 202, 204, 206, 208, 210, 212, 214, 216, 218, 220, 222]) (by decide +kernel), ⟨zY5, by decide +kernel, by decide +kernel⟩, by decide +kernel, z_word (q := 145) (by decide +kernel), z_word (q := 107) (by decide +kernel), by decide +kernel⟩
theorem z_ck6 : z_CK 6 (zR6, zT6, 8) := ⟨z_ins_mem (ps := [241, 243, 245, 247, 249, 251, 253, 255]) (by decide +kernel), ⟨zY6, by decide +kernel, by decide +kernel⟩, by decide +kernel, z_word (q := 226) (by decide +kernel), z_word (q := 109) (by decide +kernel), by decide +kernel⟩
theorem z_ck7 : z_CK 7 (zR7, zT7, 1) := ⟨z_ins_mem (ps := [157]) (by decide +kernel), ⟨zY7, by decide +kernel, by decide +kernel⟩, by decide +kernel, z_word (q := 151) (by decide +kernel), z_word (q := 108) (by decide +kernel), by decide +kernel⟩
theorem z_ck8 : z_CK 8 (zR8, zT8, 3) := ⟨z_ins_mem (ps := [274, 276, 278]) (by decide +kernel), ⟨zY8, by decide +kernel, by decide +kernel⟩, by decide +kernel, z_word (q := 260) (by decide +kernel), z_word (q := 110) (by decide +kernel), by decide +kernel⟩
theorem z_ck9 : z_CK 9 (zR9, zT9, 2) := ⟨z_ins_mem (ps := [138, 140]) (by decide +kernel), ⟨zY9, by decide +kernel, by decide +kernel⟩, by decide +kernel, z_word (q := 131) (by decide +kernel), z_word (q := 106) (by decide +kernel), by decide +kernel⟩
theorem z_ck10 : z_CK 10 (zR10, zT10, 9) := ⟨z_ins_mem (ps := [460, 462, 464, 466, 468, 470, 472, 474, 476]) (by decide +kernel), ⟨zY10, by decide +kernel, by decide +kernel⟩, by decide +kernel, z_word (q := 123) (by decide +kernel), z_word (q := 105) (by decide +kernel), by decide +kernel⟩
theorem z_ck11 : z_CK 11 (zR11, zT11, 39) := ⟨z_ins_mem (ps := [1393, 1395, 1397, 1399, 1401, 1403, 1405, 1407, 1409, 1411, 1413, 1415, 1417, 1419, 1421, 1423, 1425, 1427, 1429, 1431, 1433, 1435, 1437, 1439, 1441, 1443, 1445, 1447, 1449, 1451, 1453, 1455, 1457, 1459, 1461, 1463, 1465, 1467, 1469]) (by decide +kernel), ⟨zY11, by decide +kernel, by decide +kernel⟩, by decide +kernel, z_word (q := 1350) (by decide +kernel), z_word (q := 116) (by decide +kernel), by decide +kernel⟩
theorem z_ck : ∀ (ci : Nat) (r : vw_C), zC[ci]? = some r → z_CK ci r := by
  intro ci r h
  match ci, h with
  | 0, h => cases h; exact z_ck0
  | 1, h => cases h; exact z_ck1
  | 2, h => cases h; exact z_ck2
  | 3, h => cases h; exact z_ck3
  | 4, h => cases h; exact z_ck4
  | 5, h => cases h; exact z_ck5
  | 6, h => cases h; exact z_ck6
  | 7, h => cases h; exact z_ck7
  | 8, h => cases h; exact z_ck8
  | 9, h => cases h; exact z_ck9
  | 10, h => cases h; exact z_ck10
  | 11, h => cases h; exact z_ck11
  | k + 12, h => simp [zC] at h
theorem z_tks_len : z_tks.length ≤ 200 := by decide +kernel
theorem z_tk_lt {k : Nat} (h : z_tk k ≠ 9) : k < 200 := by
  rcases Nat.lt_or_ge k z_tks.length with g | g
  · exact Nat.lt_of_lt_of_le g z_tks_len
  · exact absurd (by simp [z_tk, g]) h
theorem z_k_lt {n k : Nat} (h : z_okv n (.ref k)) (ht : z_tk k ≠ 9) : k < n := by
  rcases h with h | h
  · exact h
  · have := z_tk_lt ht
    have h2 : z_sb = 1000000 := rfl
    omega
theorem z_tr_ref {ad sa : Nat → Nat} {k : Nat} (h : k < 200) : z_tr ad sa (.ref k) = .ref (ad k) := by
  have h2 : z_sb = 1000000 := rfl
  have h3 : k < z_sb := by omega
  simp only [z_tr]
  rw [if_pos h3]
theorem z_tr_rv {ad sa : Nat → Nat} {m : zM} (hw : z_wf m) (k f : Nat) : z_tr ad sa (z_rv (m.2.1 k f)) = va_rf ((m.2.1 k f).map ad) := by
  cases h : m.2.1 k f with
  | none => rfl
  | some j =>
    have := hw.1 k f j h
    have h3 := hw.2.2
    exact z_tr_ref (by omega)
theorem z_ok_rv {m : zM} (hw : z_wf m) (k f : Nat) : z_okv m.1 (z_rv (m.2.1 k f)) := by
  cases h : m.2.1 k f with
  | none => simp [z_rv, z_okv]
  | some j => exact Or.inl (hw.1 k f j h)
theorem z_cell_o {ad : Nat → Nat} {ac : Nat → ClassId} {m : zM} {k ci : Nat} (h : z_tk k = 0) (hc : z_tn k = ci) : z_cell ad ac m k = .inr (ci, z_fs ad m k ci) := by
  simp only [z_cell, h, hc]
theorem z_fs_at {ad : Nat → Nat} {m : zM} {k ci f : Nat} (h : f < z_nf ci) : (z_fs ad m k ci)[f]? = some (z_fv ad m k (z_fk ci f) f) := by
  simp [z_fs, h]
theorem z_fs_len {ad : Nat → Nat} {m : zM} {k ci : Nat} : (z_fs ad m k ci).length = z_nf ci := by simp [z_fs]
theorem z_fs_set {ad : Nat → Nat} {m m' : zM} {k ci f : Nat} {v : Value} (hv : z_fv ad m' k (z_fk ci f) f = v) (ho : ∀ j, j ≠ f → z_fv ad m' k (z_fk ci j) j = z_fv ad m k (z_fk ci j) j) : (z_fs ad m k ci).set f v = z_fs ad m' k ci := by
  apply List.ext_getElem?
  intro j
  rw [List.getElem?_set]
  by_cases hj : f = j
  · subst hj
    by_cases hl : f < z_nf ci
    · rw [if_pos rfl, if_pos (by rw [z_fs_len]; exact hl), z_fs_at hl, hv]
    · rw [if_pos rfl, if_neg (by rw [z_fs_len]; exact hl), List.getElem?_eq_none (by rw [z_fs_len]; omega)]
  · rw [if_neg hj]
    by_cases hl : j < z_nf ci
    · rw [z_fs_at hl, z_fs_at hl, ho j (fun q => hj q.symm)]
    · rw [List.getElem?_eq_none (by rw [z_fs_len]; omega), List.getElem?_eq_none (by rw [z_fs_len]; omega)]
theorem z_fld_spec {own : String} {i pl q : Nat} (h : z_fld own i pl q = true) : ∃ r : vw_C, zC[q / 4096]? = some r ∧ q / 4 % 1024 < r.2.2 ∧ r.2.2 = z_nf (q / 4096) ∧ Cond.fieldLink own i (r.2.1 (q / 4 % 1024)).1 (r.2.1 (q / 4 % 1024)).2.1 (r.2.1 (q / 4 % 1024)).2.2.1 ∈ z_tb := by
  simp only [z_fld] at h
  cases hc : zC[q / 4096]? with
  | none => rw [hc] at h; cases h
  | some r =>
    rw [hc] at h
    simp only [Bool.and_eq_true, decide_eq_true_eq] at h
    exact ⟨r, rfl, h.1.1, h.1.2, z_word h.2⟩
section ZS

variable {p : Program} {l : Launch} {e : Env} {R : Room} {s : State} {mt : MethodId} {args : Array Value} {below : List Frame} {meth : Method} {c : Code} {Q : State → Prop} {D : va_G} {A : Nat → Prop} {sa sv ad0 : Nat → Nat} {n0 nf nL : Nat} {cd : List zI} {own : String} {cc : ByteArray} {ini : Bool} {rt : Option FieldType}

theorem zs_getf (C : z_Cx p s mt args meth c own cc nL ini rt) {ip i pl q k : Nat} {lv : zL} {r : List Value} {m : zM} {v : Value} (hd : decode cc (z_pc cd ip) = .ok (.getfield i, 3)) (hn : z_pc cd (ip + 1) = z_pc cd ip + 3) (hf : z_fld own i pl q = true) (ht : z_tk k = 0) (hc : z_tn k = q / 4096)
    (hv : ∀ ad, z_wf m → z_tr ad sa v = z_fv ad m k (z_fk (q / 4096) (q / 4 % 1024)) (q / 4 % 1024)) (hkv : z_wf m → z_okv m.1 v) (h : z_G p l e R s mt args below meth c Q D A sa ad0 n0 nf nL (z_pc cd) (ip + 1) lv (v :: r) m) : z_G p l e R s mt args below meth c Q D A sa ad0 n0 nf nL (z_pc cd) ip lv (.ref k :: r) m := by
  refine ⟨h.1, fun ad ac tys H locs ls hSt hl ho hvv => ?_⟩
  obtain ⟨hK, hP, hD, hS, hty, hw, hn0, had⟩ := id hSt
  have hk : k < m.1 := z_k_lt (ho _ List.mem_cons_self) (by rw [ht]; decide)
  have h2 := h.2 ad ac tys H locs ls hSt hl (fun w hw2 => by
    rcases List.mem_cons.mp hw2 with rfl | g
    · exact hkv hw
    · exact ho w (List.mem_cons_of_mem _ g)) hvv
  rw [hn] at h2
  obtain ⟨cr, hcr, hlt, hN, hwd⟩ := z_fld_spec hf
  obtain ⟨c1, ⟨ty0, c2, c3⟩, c4, c5, c6, c7⟩ := z_ck _ _ hcr
  have h200 : k < 200 := Nat.lt_of_lt_of_le hk hw.2.2
  show W p l e R s mt args below meth c H locs _ _ Q (F0 mt _ ls (z_tr ad sa (.ref k) :: r.map (z_tr ad sa)))
  rw [z_tr_ref h200]
  refine va_get (D := D) (ci := q / 4096) (C := cr.1) (T := cr.2.1) (N := cr.2.2) C.1 C.2.1 C.2.2.2.2.2.1 c1 C.2.2.2.2.1 hK hP k ((z_ws_at hk).trans (by rw [z_cell_o ht hc])) hcr (q / 4 % 1024) hlt (C.2.2.2.2.2.1 _ hwd) (fun _ h9 => h9) (z_fs_at (by rw [← hN]; exact hlt)) hd ?_
  rw [← hv ad hw]
  exact h2
theorem zs_putf (C : z_Cx p s mt args meth c own cc nL ini rt) {ip i pl q k : Nat} {lv : zL} {r : List Value} {m m' : zM} {v : Value} {ty : FieldType} (hd : decode cc (z_pc cd ip) = .ok (.putfield i, 3)) (hn : z_pc cd (ip + 1) = z_pc cd ip + 3) (hf : z_fld own i pl q = true) (hfin : z_fin own ini q = true) (ht : z_tk k = 0) (hc : z_tn k = q / 4096) (hty9 : z_fty q = some ty)
    (hna : ∀ ad, narrow ty (z_tr ad sa v) = z_tr ad sa v) (hfi : ∀ ad, fits ty (z_tr ad sa v) = true) (hm : m'.1 = m.1) (hfs : ∀ ad, z_okv m.1 v → z_wf m → (z_fs ad m k (q / 4096)).set (q / 4 % 1024) (z_tr ad sa v) = z_fs ad m' k (q / 4096)) (hoth : ∀ ad ac j, j ≠ k → z_cell ad ac m' j = z_cell ad ac m j) (hwf : z_okv m.1 v → k < m.1 → z_wf m → z_wf m')
    (h : z_G p l e R s mt args below meth c Q D A sa ad0 n0 nf nL (z_pc cd) (ip + 1) lv r m') : z_G p l e R s mt args below meth c Q D A sa ad0 n0 nf nL (z_pc cd) ip lv (v :: .ref k :: r) m := by
  refine ⟨by rw [← hm]; exact h.1, fun ad ac tys H locs ls hSt hl ho hvv => ?_⟩
  obtain ⟨hK, hP, hD, hS, hty, hw, hn0, had⟩ := id hSt
  have hov : z_okv m.1 v := ho _ List.mem_cons_self
  have hk : k < m.1 := z_k_lt (ho _ (List.mem_cons_of_mem _ List.mem_cons_self)) (by rw [ht]; decide)
  have h200 : k < 200 := Nat.lt_of_lt_of_le hk hw.2.2
  obtain ⟨cr, hcr, hlt, hN, hwd⟩ := z_fld_spec hf
  obtain ⟨c1, ⟨ty0, c2, c3⟩, c4, c5, c6, c7⟩ := z_ck _ _ hcr
  have hpd : parseFieldDescriptor (cr.2.1 (q / 4 % 1024)).2.2.1 = some ty := by
    simp only [z_fty, hcr] at hty9
    exact hty9
  have fin : ∀ (H1 : Heap) (locs1 : List Loc), va_P D zC ((z_ws ad ac m).set k (ad k, .inr (q / 4096, (z_fs ad m k (q / 4096)).set (q / 4 % 1024) (z_tr ad sa v)))) H1 → va_D A ((z_ws ad ac m).set k (ad k, .inr (q / 4096, (z_fs ad m k (q / 4096)).set (q / 4 % 1024) (z_tr ad sa v)))) → va_S A s.heap H1 locs1 → W p l e R s mt args below meth c H1 locs1 (m.1 - n0) (z_sl m.1 - z_sl n0) Q (F0 mt (z_pc cd ip + 3) ls (r.map (z_tr ad sa))) := by
    intro H1 locs1 p1 d1 s1
    rw [hfs ad hov hw, z_ws_set hm (z_cell_o ht hc) (hoth ad ac)] at p1 d1
    have h2 := h.2 ad ac tys H1 locs1 ls ⟨hK, p1, d1, s1, by rw [hm]; exact hty, hwf hov hk hw, by rw [hm]; exact hn0, had⟩ hl (fun w g => by rw [hm]; exact ho w (List.mem_cons_of_mem _ (List.mem_cons_of_mem _ g))) (by rw [hm]; exact hvv)
    rw [hn, hm] at h2
    exact h2
  show W p l e R s mt args below meth c H locs _ _ Q (F0 mt _ ls (z_tr ad sa v :: z_tr ad sa (.ref k) :: r.map (z_tr ad sa)))
  rw [z_tr_ref h200]
  simp only [z_fin, hcr, Bool.or_eq_true, Bool.not_eq_true', Bool.and_eq_true, decide_eq_true_eq] at hfin
  rcases hfin with hf0 | ⟨hf1, hf2⟩
  · exact va_put (D := D) (ci := q / 4096) (C := cr.1) (T := cr.2.1) (N := cr.2.2) C.1 C.2.1 C.2.2.2.2.2.1 c1 ty0 c2 c4 C.2.2.2.2.1 hK hP hD hS k ((z_ws_at hk).trans (by rw [z_cell_o ht hc])) hcr (q / 4 % 1024) hlt (C.2.2.2.2.2.1 _ hwd) (fun _ h9 => h9) hf0 hpd (hna ad) (hfi ad) (by rw [z_fs_len, ← hN]; exact hlt) hd fin
  · cases hfl : (cr.2.1 (q / 4 % 1024)).2.2.2 with
    | false => exact va_put (D := D) (ci := q / 4096) (C := cr.1) (T := cr.2.1) (N := cr.2.2) C.1 C.2.1 C.2.2.2.2.2.1 c1 ty0 c2 c4 C.2.2.2.2.1 hK hP hD hS k ((z_ws_at hk).trans (by rw [z_cell_o ht hc])) hcr (q / 4 % 1024) hlt (C.2.2.2.2.2.1 _ hwd) (fun _ h9 => h9) hfl hpd (hna ad) (hfi ad) (by rw [z_fs_len, ← hN]; exact hlt) hd fin
    | true => exact va_putF (D := D) (ci := q / 4096) (C := cr.1) (T := cr.2.1) (N := cr.2.2) C.1 C.2.1 C.2.2.2.2.2.1 c1 ty0 c2 c4 C.2.2.2.2.1 hK hP hD hS k ((z_ws_at hk).trans (by rw [z_cell_o ht hc])) hcr (q / 4 % 1024) hlt (C.2.2.2.2.2.1 _ hwd) (fun _ h9 => h9) hfl (C.2.2.2.2.2.2.2 hf1) hf2 hpd (hna ad) (hfi ad) (by rw [z_fs_len, ← hN]; exact hlt) hd fin
end ZS
end
section
/-! fields put, arrays, new cells -/
theorem z_u_ne {α : Type} {f : Nat → Nat → α} {k j a : Nat} {v : α} (h : a ≠ k) : z_u f k j v a = f a := by
  funext b
  simp [z_u, h]
theorem z_u_at {α : Type} (f : Nat → Nat → α) (k j b : Nat) (v : α) : z_u f k j v k b = if b = j then v else f k b := by simp [z_u]
theorem z_cell_ni {ad : Nat → Nat} {ac : Nat → ClassId} {m : zM} {k f j : Nat} {x : Int32} (h : j ≠ k) : z_cell ad ac (m.1, m.2.1, z_u m.2.2.1 k f x, m.2.2.2) j = z_cell ad ac m j := by
  simp only [z_cell, z_fs, z_fv, z_u_ne h]
theorem z_cell_nl {ad : Nat → Nat} {ac : Nat → ClassId} {m : zM} {k f j : Nat} {x : Int64} (h : j ≠ k) : z_cell ad ac (m.1, m.2.1, m.2.2.1, z_u m.2.2.2 k f x) j = z_cell ad ac m j := by
  simp only [z_cell, z_fs, z_fv, z_u_ne h]
theorem z_cell_nr {ad : Nat → Nat} {ac : Nat → ClassId} {m : zM} {k f j : Nat} {x : Option Nat} (h : j ≠ k) : z_cell ad ac (m.1, z_u m.2.1 k f x, m.2.2.1, m.2.2.2) j = z_cell ad ac m j := by
  simp only [z_cell, z_fs, z_fv, z_u_ne h]
theorem z_cell_a1 {ad : Nat → Nat} {ac : Nat → ClassId} {m : zM} {k : Nat} (h : z_tk k = 1) : z_cell ad ac m k = .inl (ac k, z_tn k, .inl (m.2.2.1 k)) := by
  simp only [z_cell, h]
theorem z_cell_a2 {ad : Nat → Nat} {ac : Nat → ClassId} {m : zM} {k : Nat} (h : z_tk k = 2) : z_cell ad ac m k = .inl (ac k, z_tn k, .inl (m.2.2.1 k)) := by
  simp only [z_cell, h]
theorem z_cell_a3 {ad : Nat → Nat} {ac : Nat → ClassId} {m : zM} {k : Nat} (h : z_tk k = 3) : z_cell ad ac m k = .inl (ac k, z_tn k, .inl (m.2.2.1 k)) := by
  simp only [z_cell, h]
theorem z_cell_a4 {ad : Nat → Nat} {ac : Nat → ClassId} {m : zM} {k : Nat} (h : z_tk k = 4) : z_cell ad ac m k = .inl (ac k, z_tn k, .inr (.inl (m.2.2.2 k))) := by
  simp only [z_cell, h]
theorem z_cell_a5 {ad : Nat → Nat} {ac : Nat → ClassId} {m : zM} {k : Nat} (h : z_tk k = 5) : z_cell ad ac m k = .inl (ac k, z_tn k, .inr (.inr (.inr (.inr (fun j => (m.2.1 k j).map ad))))) := by
  simp only [z_cell, h]
theorem z_wf_i {m : zM} {k f : Nat} {x : Int32} (hk : k < m.1) (h : z_wf m) : z_wf (m.1, m.2.1, z_u m.2.2.1 k f x, m.2.2.2) :=
  ⟨h.1, fun j hj g => ⟨(h.2.1 j hj g).1, by have h9 : m.1 ≤ j := hj; have : j ≠ k := (by omega); show z_u m.2.2.1 k f x j g = 0; rw [z_u_ne this]; exact (h.2.1 j hj g).2.1, (h.2.1 j hj g).2.2⟩, h.2.2⟩
theorem z_wf_l {m : zM} {k f : Nat} {x : Int64} (hk : k < m.1) (h : z_wf m) : z_wf (m.1, m.2.1, m.2.2.1, z_u m.2.2.2 k f x) :=
  ⟨h.1, fun j hj g => ⟨(h.2.1 j hj g).1, (h.2.1 j hj g).2.1, by have h9 : m.1 ≤ j := hj; have : j ≠ k := (by omega); show z_u m.2.2.2 k f x j g = 0; rw [z_u_ne this]; exact (h.2.1 j hj g).2.2⟩, h.2.2⟩
theorem z_wf_r {m : zM} {k f x : Nat} (hk : k < m.1) (hx : x < m.1) (h : z_wf m) : z_wf (m.1, z_u m.2.1 k f (some x), m.2.2.1, m.2.2.2) := by
  refine ⟨fun a b j hj => ?_, fun j hj g => ⟨?_, (h.2.1 j hj g).2.1, (h.2.1 j hj g).2.2⟩, h.2.2⟩
  · have hj : z_u m.2.1 k f (some x) a b = some j := hj
    show j < m.1
    by_cases q : a = k
    · subst q
      rw [z_u_at] at hj
      by_cases q2 : b = f
      · rw [if_pos q2] at hj; cases hj; exact hx
      · rw [if_neg q2] at hj; exact h.1 a b j hj
    · rw [z_u_ne q] at hj
      exact h.1 a b j hj
  · have h9 : m.1 ≤ j := hj
    have : j ≠ k := (by omega)
    show z_u m.2.1 k f (some x) j g = none
    rw [z_u_ne this]
    exact (h.2.1 j hj g).1
section ZS

variable {p : Program} {l : Launch} {e : Env} {R : Room} {s : State} {mt : MethodId} {args : Array Value} {below : List Frame} {meth : Method} {c : Code} {Q : State → Prop} {D : va_G} {A : Nat → Prop} {sa sv ad0 : Nat → Nat} {n0 nf nL : Nat} {cd : List zI} {own : String} {cc : ByteArray} {ini : Bool} {rt : Option FieldType}

theorem zs_puti (C : z_Cx p s mt args meth c own cc nL ini rt) {ip i pl q k : Nat} {lv : zL} {r : List Value} {m : zM} {x : Int32} (hd : decode cc (z_pc cd ip) = .ok (.putfield i, 3)) (hn : z_pc cd (ip + 1) = z_pc cd ip + 3) (hf : z_fld own i pl q = true) (hfin : z_fin own ini q = true) (ht : z_tk k = 0) (hc : z_tn k = q / 4096) (hk9 : (z_fk (q / 4096) (q / 4 % 1024) = 0 ∧ z_fty q = some .int) ∨ (z_fk (q / 4096) (q / 4 % 1024) = 3 ∧ z_fty q = some .boolean ∧ (x = 0 ∨ x = 1)))
    (h : z_G p l e R s mt args below meth c Q D A sa ad0 n0 nf nL (z_pc cd) (ip + 1) lv r (m.1, m.2.1, z_u m.2.2.1 k (q / 4 % 1024) x, m.2.2.2)) : z_G p l e R s mt args below meth c Q D A sa ad0 n0 nf nL (z_pc cd) ip lv (.int x :: .ref k :: r) m := by
  have key : ∀ ad : Nat → Nat, z_fk (q / 4096) (q / 4 % 1024) = 0 ∨ z_fk (q / 4096) (q / 4 % 1024) = 3 → (z_fs ad m k (q / 4096)).set (q / 4 % 1024) (z_tr ad sa (.int x)) = z_fs ad (m.1, m.2.1, z_u m.2.2.1 k (q / 4 % 1024) x, m.2.2.2) k (q / 4096) := by
    intro ad h0
    refine z_fs_set ?_ (fun j hj => ?_)
    · rcases h0 with h0 | h0 <;> (rw [h0]; show Value.int (z_u m.2.2.1 k (q / 4 % 1024) x k (q / 4 % 1024)) = .int x; rw [z_u_at, if_pos rfl])
    · simp only [z_fv, z_u_at, if_neg hj]
  rcases hk9 with ⟨h0, ty⟩ | ⟨h0, ty, hx⟩
  · exact zs_putf (m' := (m.1, m.2.1, z_u m.2.2.1 k (q / 4 % 1024) x, m.2.2.2)) C hd hn hf hfin ht hc ty (fun _ => rfl) (fun _ => rfl) rfl (fun ad _ _ => key ad (Or.inl h0)) (fun ad ac j hj => z_cell_ni hj) (fun _ hk hw => z_wf_i hk hw) h
  · exact zs_putf (m' := (m.1, m.2.1, z_u m.2.2.1 k (q / 4 % 1024) x, m.2.2.2)) C hd hn hf hfin ht hc ty (fun _ => by rcases hx with rfl | rfl <;> rfl) (fun _ => by rcases hx with rfl | rfl <;> rfl) rfl (fun ad _ _ => key ad (Or.inr h0)) (fun ad ac j hj => z_cell_ni hj) (fun _ hk hw => z_wf_i hk hw) h
theorem zs_putl (C : z_Cx p s mt args meth c own cc nL ini rt) {ip i pl q k : Nat} {lv : zL} {r : List Value} {m : zM} {x : Int64} (hd : decode cc (z_pc cd ip) = .ok (.putfield i, 3)) (hn : z_pc cd (ip + 1) = z_pc cd ip + 3) (hf : z_fld own i pl q = true) (hfin : z_fin own ini q = true) (ht : z_tk k = 0) (hc : z_tn k = q / 4096) (h0 : z_fk (q / 4096) (q / 4 % 1024) = 1) (ty : z_fty q = some .long)
    (h : z_G p l e R s mt args below meth c Q D A sa ad0 n0 nf nL (z_pc cd) (ip + 1) lv r (m.1, m.2.1, m.2.2.1, z_u m.2.2.2 k (q / 4 % 1024) x)) : z_G p l e R s mt args below meth c Q D A sa ad0 n0 nf nL (z_pc cd) ip lv (.long x :: .ref k :: r) m := by
  refine zs_putf (m' := (m.1, m.2.1, m.2.2.1, z_u m.2.2.2 k (q / 4 % 1024) x)) C hd hn hf hfin ht hc ty (fun _ => rfl) (fun _ => rfl) rfl (fun ad _ _ => ?_) (fun ad ac j hj => z_cell_nl hj) (fun _ hk hw => z_wf_l hk hw) h
  refine z_fs_set ?_ (fun j hj => ?_)
  · rw [h0]; show Value.long (z_u m.2.2.2 k (q / 4 % 1024) x k (q / 4 % 1024)) = .long x; rw [z_u_at, if_pos rfl]
  · simp only [z_fv, z_u_at, if_neg hj]
theorem zs_putr (C : z_Cx p s mt args meth c own cc nL ini rt) {ip i pl q k : Nat} {lv : zL} {r : List Value} {m : zM} {x : Nat} (hd : decode cc (z_pc cd ip) = .ok (.putfield i, 3)) (hn : z_pc cd (ip + 1) = z_pc cd ip + 3) (hf : z_fld own i pl q = true) (hfin : z_fin own ini q = true) (ht : z_tk k = 0) (hc : z_tn k = q / 4096) (h0 : z_fk (q / 4096) (q / 4 % 1024) = 2) (ty : z_isR (z_fty q) = true) (hx : x < z_sb)
    (h : z_G p l e R s mt args below meth c Q D A sa ad0 n0 nf nL (z_pc cd) (ip + 1) lv r (m.1, z_u m.2.1 k (q / 4 % 1024) (some x), m.2.2.1, m.2.2.2)) : z_G p l e R s mt args below meth c Q D A sa ad0 n0 nf nL (z_pc cd) ip lv (.ref x :: .ref k :: r) m := by
  have hxl : z_okv m.1 (.ref x) → x < m.1 := fun g => by
    rcases g with g | g
    · exact g
    · omega
  have key : ∀ ad : Nat → Nat, z_okv m.1 (.ref x) → z_wf m → (z_fs ad m k (q / 4096)).set (q / 4 % 1024) (z_tr ad sa (.ref x)) = z_fs ad (m.1, z_u m.2.1 k (q / 4 % 1024) (some x), m.2.2.1, m.2.2.2) k (q / 4096) := by
    intro ad ho hw
    have := hxl ho
    have h3 := hw.2.2
    refine z_fs_set ?_ (fun j hj => ?_)
    · rw [h0, z_tr_ref (by omega)]
      show va_rf ((z_u m.2.1 k (q / 4 % 1024) (some x) k (q / 4 % 1024)).map ad) = .ref (ad x)
      rw [z_u_at, if_pos rfl]; rfl
    · simp only [z_fv, z_u_at, if_neg hj]
  have isr : ∀ t : FieldType, z_isR (some t) = true → (∀ ad : Nat → Nat, narrow t (z_tr ad sa (.ref x)) = z_tr ad sa (.ref x)) ∧ ∀ ad : Nat → Nat, fits t (z_tr ad sa (.ref x)) = true := by
    intro t ht2
    cases t <;> first | exact ⟨fun _ => rfl, fun _ => rfl⟩ | cases ht2
  cases hty : z_fty q with
  | none => rw [hty] at ty; cases ty
  | some t =>
    rw [hty] at ty
    exact zs_putf (m' := (m.1, z_u m.2.1 k (q / 4 % 1024) (some x), m.2.2.1, m.2.2.2)) C hd hn hf hfin ht hc hty (isr t ty).1 (isr t ty).2 rfl key (fun ad ac j hj => z_cell_nr hj) (fun ho hk hw => z_wf_r hk (hxl ho) hw) h
theorem zs_iald (C : z_Cx p s mt args meth c own cc nL ini rt) {ip k : Nat} {lv : zL} {r : List Value} {m : zM} {j : Int32} (hd : decode cc (z_pc cd ip) = .ok (.iaload, 1)) (hn : z_pc cd (ip + 1) = z_pc cd ip + 1) (ht : z_tk k = 1) (hj : ¬ (j < 0 ∨ z_tn k ≤ j.toNatClampNeg)) (h : z_G p l e R s mt args below meth c Q D A sa ad0 n0 nf nL (z_pc cd) (ip + 1) lv (.int (m.2.2.1 k j.toNatClampNeg) :: r) m) : z_G p l e R s mt args below meth c Q D A sa ad0 n0 nf nL (z_pc cd) ip lv (.int j :: .ref k :: r) m := by
  refine ⟨h.1, fun ad ac tys H locs ls hSt hl ho hvv => ?_⟩
  obtain ⟨hK, hP, hD, hS, hty, hw, hn0, had⟩ := id hSt
  have hk : k < m.1 := z_k_lt (ho _ (List.mem_cons_of_mem _ List.mem_cons_self)) (by rw [ht]; decide)
  have h200 : k < 200 := Nat.lt_of_lt_of_le hk hw.2.2
  have h2 := h.2 ad ac tys H locs ls hSt hl (fun w hw2 => by
    rcases List.mem_cons.mp hw2 with rfl | g
    · exact by simp [z_okv]
    · exact ho w (List.mem_cons_of_mem _ (List.mem_cons_of_mem _ g))) hvv
  rw [hn] at h2
  obtain ⟨t0, ht0⟩ := List.mem_iff_getElem?.mp (hty k (.int) hk (by rw [ht]; rfl))
  show W p l e R s mt args below meth c H locs _ _ Q (F0 mt _ ls (.int j :: z_tr ad sa (.ref k) :: r.map (z_tr ad sa)))
  rw [z_tr_ref h200]
  refine va_iald C.1 C.2.1 hK hP k t0 ((z_ws_at hk).trans (by rw [z_cell_a1 ht])) ht0 hj hd ?_
  exact h2
theorem zs_bald (C : z_Cx p s mt args meth c own cc nL ini rt) {ip k : Nat} {lv : zL} {r : List Value} {m : zM} {j : Int32} (hd : decode cc (z_pc cd ip) = .ok (.baload, 1)) (hn : z_pc cd (ip + 1) = z_pc cd ip + 1) (ht : z_tk k = 2) (hj : ¬ (j < 0 ∨ z_tn k ≤ j.toNatClampNeg)) (h : z_G p l e R s mt args below meth c Q D A sa ad0 n0 nf nL (z_pc cd) (ip + 1) lv (.int (m.2.2.1 k j.toNatClampNeg) :: r) m) : z_G p l e R s mt args below meth c Q D A sa ad0 n0 nf nL (z_pc cd) ip lv (.int j :: .ref k :: r) m := by
  refine ⟨h.1, fun ad ac tys H locs ls hSt hl ho hvv => ?_⟩
  obtain ⟨hK, hP, hD, hS, hty, hw, hn0, had⟩ := id hSt
  have hk : k < m.1 := z_k_lt (ho _ (List.mem_cons_of_mem _ List.mem_cons_self)) (by rw [ht]; decide)
  have h200 : k < 200 := Nat.lt_of_lt_of_le hk hw.2.2
  have h2 := h.2 ad ac tys H locs ls hSt hl (fun w hw2 => by
    rcases List.mem_cons.mp hw2 with rfl | g
    · exact by simp [z_okv]
    · exact ho w (List.mem_cons_of_mem _ (List.mem_cons_of_mem _ g))) hvv
  rw [hn] at h2
  obtain ⟨t0, ht0⟩ := List.mem_iff_getElem?.mp (hty k (.byte) hk (by rw [ht]; rfl))
  show W p l e R s mt args below meth c H locs _ _ Q (F0 mt _ ls (.int j :: z_tr ad sa (.ref k) :: r.map (z_tr ad sa)))
  rw [z_tr_ref h200]
  refine va_bald C.1 C.2.1 hK hP k t0 ((z_ws_at hk).trans (by rw [z_cell_a2 ht])) ht0 hj hd ?_
  exact h2
theorem zs_zald (C : z_Cx p s mt args meth c own cc nL ini rt) {ip k : Nat} {lv : zL} {r : List Value} {m : zM} {j : Int32} (hd : decode cc (z_pc cd ip) = .ok (.baload, 1)) (hn : z_pc cd (ip + 1) = z_pc cd ip + 1) (ht : z_tk k = 3) (hj : ¬ (j < 0 ∨ z_tn k ≤ j.toNatClampNeg)) (h : z_G p l e R s mt args below meth c Q D A sa ad0 n0 nf nL (z_pc cd) (ip + 1) lv (.int (m.2.2.1 k j.toNatClampNeg) :: r) m) : z_G p l e R s mt args below meth c Q D A sa ad0 n0 nf nL (z_pc cd) ip lv (.int j :: .ref k :: r) m := by
  refine ⟨h.1, fun ad ac tys H locs ls hSt hl ho hvv => ?_⟩
  obtain ⟨hK, hP, hD, hS, hty, hw, hn0, had⟩ := id hSt
  have hk : k < m.1 := z_k_lt (ho _ (List.mem_cons_of_mem _ List.mem_cons_self)) (by rw [ht]; decide)
  have h200 : k < 200 := Nat.lt_of_lt_of_le hk hw.2.2
  have h2 := h.2 ad ac tys H locs ls hSt hl (fun w hw2 => by
    rcases List.mem_cons.mp hw2 with rfl | g
    · exact by simp [z_okv]
    · exact ho w (List.mem_cons_of_mem _ (List.mem_cons_of_mem _ g))) hvv
  rw [hn] at h2
  obtain ⟨t0, ht0⟩ := List.mem_iff_getElem?.mp (hty k (.boolean) hk (by rw [ht]; rfl))
  show W p l e R s mt args below meth c H locs _ _ Q (F0 mt _ ls (.int j :: z_tr ad sa (.ref k) :: r.map (z_tr ad sa)))
  rw [z_tr_ref h200]
  refine va_zald C.1 C.2.1 hK hP k t0 ((z_ws_at hk).trans (by rw [z_cell_a3 ht])) ht0 hj hd ?_
  exact h2
theorem zs_lald (C : z_Cx p s mt args meth c own cc nL ini rt) {ip k : Nat} {lv : zL} {r : List Value} {m : zM} {j : Int32} (hd : decode cc (z_pc cd ip) = .ok (.laload, 1)) (hn : z_pc cd (ip + 1) = z_pc cd ip + 1) (ht : z_tk k = 4) (hj : ¬ (j < 0 ∨ z_tn k ≤ j.toNatClampNeg)) (h : z_G p l e R s mt args below meth c Q D A sa ad0 n0 nf nL (z_pc cd) (ip + 1) lv (.long (m.2.2.2 k j.toNatClampNeg) :: r) m) : z_G p l e R s mt args below meth c Q D A sa ad0 n0 nf nL (z_pc cd) ip lv (.int j :: .ref k :: r) m := by
  refine ⟨h.1, fun ad ac tys H locs ls hSt hl ho hvv => ?_⟩
  obtain ⟨hK, hP, hD, hS, hty, hw, hn0, had⟩ := id hSt
  have hk : k < m.1 := z_k_lt (ho _ (List.mem_cons_of_mem _ List.mem_cons_self)) (by rw [ht]; decide)
  have h200 : k < 200 := Nat.lt_of_lt_of_le hk hw.2.2
  have h2 := h.2 ad ac tys H locs ls hSt hl (fun w hw2 => by
    rcases List.mem_cons.mp hw2 with rfl | g
    · exact by simp [z_okv]
    · exact ho w (List.mem_cons_of_mem _ (List.mem_cons_of_mem _ g))) hvv
  rw [hn] at h2
  obtain ⟨t0, ht0⟩ := List.mem_iff_getElem?.mp (hty k (.long) hk (by rw [ht]; rfl))
  show W p l e R s mt args below meth c H locs _ _ Q (F0 mt _ ls (.int j :: z_tr ad sa (.ref k) :: r.map (z_tr ad sa)))
  rw [z_tr_ref h200]
  refine va_lald C.1 C.2.1 hK hP k t0 ((z_ws_at hk).trans (by rw [z_cell_a4 ht])) ht0 hj hd ?_
  exact h2
theorem zs_aald (C : z_Cx p s mt args meth c own cc nL ini rt) {ip k : Nat} {lv : zL} {r : List Value} {m : zM} {j : Int32} (hd : decode cc (z_pc cd ip) = .ok (.aaload, 1)) (hn : z_pc cd (ip + 1) = z_pc cd ip + 1) (ht : z_tk k = 5) (hj : ¬ (j < 0 ∨ z_tn k ≤ j.toNatClampNeg)) (h : z_G p l e R s mt args below meth c Q D A sa ad0 n0 nf nL (z_pc cd) (ip + 1) lv (z_rv (m.2.1 k j.toNatClampNeg) :: r) m) : z_G p l e R s mt args below meth c Q D A sa ad0 n0 nf nL (z_pc cd) ip lv (.int j :: .ref k :: r) m := by
  refine ⟨h.1, fun ad ac tys H locs ls hSt hl ho hvv => ?_⟩
  obtain ⟨hK, hP, hD, hS, hty, hw, hn0, had⟩ := id hSt
  have hk : k < m.1 := z_k_lt (ho _ (List.mem_cons_of_mem _ List.mem_cons_self)) (by rw [ht]; decide)
  have h200 : k < 200 := Nat.lt_of_lt_of_le hk hw.2.2
  have h2 := h.2 ad ac tys H locs ls hSt hl (fun w hw2 => by
    rcases List.mem_cons.mp hw2 with rfl | g
    · exact z_ok_rv hw _ _
    · exact ho w (List.mem_cons_of_mem _ (List.mem_cons_of_mem _ g))) hvv
  rw [hn] at h2
  obtain ⟨t0, ht0⟩ := List.mem_iff_getElem?.mp (hty k (.object "LongBoats$Harbour") hk (by rw [ht]; rfl))
  show W p l e R s mt args below meth c H locs _ _ Q (F0 mt _ ls (.int j :: z_tr ad sa (.ref k) :: r.map (z_tr ad sa)))
  rw [z_tr_ref h200]
  refine va_aldq C.1 C.2.1 hK hP k t0 ((z_ws_at hk).trans (by rw [z_cell_a5 ht])) ht0 hj hd ?_
  rw [← z_tr_rv (sa := sa) hw]
  exact h2
theorem zs_iast (C : z_Cx p s mt args meth c own cc nL ini rt) {ip k : Nat} {lv : zL} {r : List Value} {m : zM} {j : Int32} {x : Int32} (hd : decode cc (z_pc cd ip) = .ok (.iastore, 1)) (hn : z_pc cd (ip + 1) = z_pc cd ip + 1) (ht : z_tk k = 1) (hj : ¬ (j < 0 ∨ z_tn k ≤ j.toNatClampNeg)) (h : z_G p l e R s mt args below meth c Q D A sa ad0 n0 nf nL (z_pc cd) (ip + 1) lv r (m.1, m.2.1, z_u m.2.2.1 k j.toNatClampNeg x, m.2.2.2)) : z_G p l e R s mt args below meth c Q D A sa ad0 n0 nf nL (z_pc cd) ip lv (.int x :: .int j :: .ref k :: r) m := by
  refine ⟨h.1, fun ad ac tys H locs ls hSt hl ho hvv => ?_⟩
  obtain ⟨hK, hP, hD, hS, hty, hw, hn0, had⟩ := id hSt
  have hk : k < m.1 := z_k_lt (ho _ (List.mem_cons_of_mem _ (List.mem_cons_of_mem _ List.mem_cons_self))) (by rw [ht]; decide)
  have h200 : k < 200 := Nat.lt_of_lt_of_le hk hw.2.2
  obtain ⟨t0, ht0⟩ := List.mem_iff_getElem?.mp (hty k (.int) hk (by rw [ht]; rfl))
  show W p l e R s mt args below meth c H locs _ _ Q (F0 mt _ ls (.int x :: .int j :: z_tr ad sa (.ref k) :: r.map (z_tr ad sa)))
  rw [z_tr_ref h200]
  refine va_iast C.1 C.2.1 hK hP hD hS k t0 ((z_ws_at hk).trans (by rw [z_cell_a1 ht])) ht0 hj hd (fun H1 locs1 p1 d1 s1 => ?_)
  rw [z_ws_set (ad := ad) (ac := ac) (m := m) (m' := (m.1, m.2.1, z_u m.2.2.1 k j.toNatClampNeg x, m.2.2.2)) rfl ((z_cell_a1 ht).trans (by congr 4; funext b; simp only [z_u_at, upd])) (fun q hq => z_cell_ni hq)] at p1 d1
  have h2 := h.2 ad ac tys H1 locs1 ls ⟨hK, p1, d1, s1, hty, z_wf_i hk hw, hn0, had⟩ hl (fun w g => ho w (List.mem_cons_of_mem _ (List.mem_cons_of_mem _ (List.mem_cons_of_mem _ g)))) hvv
  rw [hn] at h2
  exact h2
theorem zs_bast (C : z_Cx p s mt args meth c own cc nL ini rt) {ip k : Nat} {lv : zL} {r : List Value} {m : zM} {j : Int32} {x : Int32} (hd : decode cc (z_pc cd ip) = .ok (.bastore, 1)) (hn : z_pc cd (ip + 1) = z_pc cd ip + 1) (ht : z_tk k = 2) (hj : ¬ (j < 0 ∨ z_tn k ≤ j.toNatClampNeg)) (h : z_G p l e R s mt args below meth c Q D A sa ad0 n0 nf nL (z_pc cd) (ip + 1) lv r (m.1, m.2.1, z_u m.2.2.1 k j.toNatClampNeg x.toInt8.toInt32, m.2.2.2)) : z_G p l e R s mt args below meth c Q D A sa ad0 n0 nf nL (z_pc cd) ip lv (.int x :: .int j :: .ref k :: r) m := by
  refine ⟨h.1, fun ad ac tys H locs ls hSt hl ho hvv => ?_⟩
  obtain ⟨hK, hP, hD, hS, hty, hw, hn0, had⟩ := id hSt
  have hk : k < m.1 := z_k_lt (ho _ (List.mem_cons_of_mem _ (List.mem_cons_of_mem _ List.mem_cons_self))) (by rw [ht]; decide)
  have h200 : k < 200 := Nat.lt_of_lt_of_le hk hw.2.2
  obtain ⟨t0, ht0⟩ := List.mem_iff_getElem?.mp (hty k (.byte) hk (by rw [ht]; rfl))
  show W p l e R s mt args below meth c H locs _ _ Q (F0 mt _ ls (.int x :: .int j :: z_tr ad sa (.ref k) :: r.map (z_tr ad sa)))
  rw [z_tr_ref h200]
  refine va_bast C.1 C.2.1 hK hP hD hS k t0 ((z_ws_at hk).trans (by rw [z_cell_a2 ht])) ht0 hj hd (fun H1 locs1 p1 d1 s1 => ?_)
  rw [z_ws_set (ad := ad) (ac := ac) (m := m) (m' := (m.1, m.2.1, z_u m.2.2.1 k j.toNatClampNeg x.toInt8.toInt32, m.2.2.2)) rfl ((z_cell_a2 ht).trans (by congr 4; funext b; simp only [z_u_at, upd, vp_nar_byte])) (fun q hq => z_cell_ni hq)] at p1 d1
  have h2 := h.2 ad ac tys H1 locs1 ls ⟨hK, p1, d1, s1, hty, z_wf_i hk hw, hn0, had⟩ hl (fun w g => ho w (List.mem_cons_of_mem _ (List.mem_cons_of_mem _ (List.mem_cons_of_mem _ g)))) hvv
  rw [hn] at h2
  exact h2
theorem zs_zast (C : z_Cx p s mt args meth c own cc nL ini rt) {ip k : Nat} {lv : zL} {r : List Value} {m : zM} {j : Int32} {x : Int32} (hd : decode cc (z_pc cd ip) = .ok (.bastore, 1)) (hn : z_pc cd (ip + 1) = z_pc cd ip + 1) (ht : z_tk k = 3) (hj : ¬ (j < 0 ∨ z_tn k ≤ j.toNatClampNeg)) (h : z_G p l e R s mt args below meth c Q D A sa ad0 n0 nf nL (z_pc cd) (ip + 1) lv r (m.1, m.2.1, z_u m.2.2.1 k j.toNatClampNeg (x &&& 1), m.2.2.2)) : z_G p l e R s mt args below meth c Q D A sa ad0 n0 nf nL (z_pc cd) ip lv (.int x :: .int j :: .ref k :: r) m := by
  refine ⟨h.1, fun ad ac tys H locs ls hSt hl ho hvv => ?_⟩
  obtain ⟨hK, hP, hD, hS, hty, hw, hn0, had⟩ := id hSt
  have hk : k < m.1 := z_k_lt (ho _ (List.mem_cons_of_mem _ (List.mem_cons_of_mem _ List.mem_cons_self))) (by rw [ht]; decide)
  have h200 : k < 200 := Nat.lt_of_lt_of_le hk hw.2.2
  obtain ⟨t0, ht0⟩ := List.mem_iff_getElem?.mp (hty k (.boolean) hk (by rw [ht]; rfl))
  show W p l e R s mt args below meth c H locs _ _ Q (F0 mt _ ls (.int x :: .int j :: z_tr ad sa (.ref k) :: r.map (z_tr ad sa)))
  rw [z_tr_ref h200]
  refine va_zast C.1 C.2.1 hK hP hD hS k t0 ((z_ws_at hk).trans (by rw [z_cell_a3 ht])) ht0 hj hd (fun H1 locs1 p1 d1 s1 => ?_)
  rw [z_ws_set (ad := ad) (ac := ac) (m := m) (m' := (m.1, m.2.1, z_u m.2.2.1 k j.toNatClampNeg (x &&& 1), m.2.2.2)) rfl ((z_cell_a3 ht).trans (by congr 4; funext b; simp only [z_u_at, upd]; rfl)) (fun q hq => z_cell_ni hq)] at p1 d1
  have h2 := h.2 ad ac tys H1 locs1 ls ⟨hK, p1, d1, s1, hty, z_wf_i hk hw, hn0, had⟩ hl (fun w g => ho w (List.mem_cons_of_mem _ (List.mem_cons_of_mem _ (List.mem_cons_of_mem _ g)))) hvv
  rw [hn] at h2
  exact h2
theorem zs_last (C : z_Cx p s mt args meth c own cc nL ini rt) {ip k : Nat} {lv : zL} {r : List Value} {m : zM} {j : Int32} {x : Int64} (hd : decode cc (z_pc cd ip) = .ok (.lastore, 1)) (hn : z_pc cd (ip + 1) = z_pc cd ip + 1) (ht : z_tk k = 4) (hj : ¬ (j < 0 ∨ z_tn k ≤ j.toNatClampNeg)) (h : z_G p l e R s mt args below meth c Q D A sa ad0 n0 nf nL (z_pc cd) (ip + 1) lv r (m.1, m.2.1, m.2.2.1, z_u m.2.2.2 k j.toNatClampNeg x)) : z_G p l e R s mt args below meth c Q D A sa ad0 n0 nf nL (z_pc cd) ip lv (.long x :: .int j :: .ref k :: r) m := by
  refine ⟨h.1, fun ad ac tys H locs ls hSt hl ho hvv => ?_⟩
  obtain ⟨hK, hP, hD, hS, hty, hw, hn0, had⟩ := id hSt
  have hk : k < m.1 := z_k_lt (ho _ (List.mem_cons_of_mem _ (List.mem_cons_of_mem _ List.mem_cons_self))) (by rw [ht]; decide)
  have h200 : k < 200 := Nat.lt_of_lt_of_le hk hw.2.2
  obtain ⟨t0, ht0⟩ := List.mem_iff_getElem?.mp (hty k (.long) hk (by rw [ht]; rfl))
  show W p l e R s mt args below meth c H locs _ _ Q (F0 mt _ ls (.long x :: .int j :: z_tr ad sa (.ref k) :: r.map (z_tr ad sa)))
  rw [z_tr_ref h200]
  refine va_last C.1 C.2.1 hK hP hD hS k t0 ((z_ws_at hk).trans (by rw [z_cell_a4 ht])) ht0 hj hd (fun H1 locs1 p1 d1 s1 => ?_)
  rw [z_ws_set (ad := ad) (ac := ac) (m := m) (m' := (m.1, m.2.1, m.2.2.1, z_u m.2.2.2 k j.toNatClampNeg x)) rfl ((z_cell_a4 ht).trans (by congr 5; funext b; simp only [z_u_at, vp_updL])) (fun q hq => z_cell_nl hq)] at p1 d1
  have h2 := h.2 ad ac tys H1 locs1 ls ⟨hK, p1, d1, s1, hty, z_wf_l hk hw, hn0, had⟩ hl (fun w g => ho w (List.mem_cons_of_mem _ (List.mem_cons_of_mem _ (List.mem_cons_of_mem _ g)))) hvv
  rw [hn] at h2
  exact h2
theorem zs_aast (C : z_Cx p s mt args meth c own cc nL ini rt) {ip k : Nat} {lv : zL} {r : List Value} {m : zM} {j : Int32} {x : Nat} (hd : decode cc (z_pc cd ip) = .ok (.aastore, 1)) (hn : z_pc cd (ip + 1) = z_pc cd ip + 1) (ht : z_tk k = 5) (hx0 : z_tk x = 0) (hx1 : z_tn x = z_hc) (hj : ¬ (j < 0 ∨ z_tn k ≤ j.toNatClampNeg)) (h : z_G p l e R s mt args below meth c Q D A sa ad0 n0 nf nL (z_pc cd) (ip + 1) lv r (m.1, z_u m.2.1 k j.toNatClampNeg (some x), m.2.2.1, m.2.2.2)) : z_G p l e R s mt args below meth c Q D A sa ad0 n0 nf nL (z_pc cd) ip lv (.ref x :: .int j :: .ref k :: r) m := by
  refine ⟨h.1, fun ad ac tys H locs ls hSt hl ho hvv => ?_⟩
  obtain ⟨hK, hP, hD, hS, hty, hw, hn0, had⟩ := id hSt
  have hk : k < m.1 := z_k_lt (ho _ (List.mem_cons_of_mem _ (List.mem_cons_of_mem _ List.mem_cons_self))) (by rw [ht]; decide)
  have hx : x < m.1 := z_k_lt (ho _ List.mem_cons_self) (by rw [hx0]; decide)
  have h200 : k < 200 := Nat.lt_of_lt_of_le hk hw.2.2
  have hx200 : x < 200 := Nat.lt_of_lt_of_le hx hw.2.2
  obtain ⟨t0, ht0⟩ := List.mem_iff_getElem?.mp (hty k (.object "LongBoats$Harbour") hk (by rw [ht]; rfl))
  show W p l e R s mt args below meth c H locs _ _ Q (F0 mt _ ls (z_tr ad sa (.ref x) :: .int j :: z_tr ad sa (.ref k) :: r.map (z_tr ad sa)))
  rw [z_tr_ref h200, z_tr_ref hx200]
  refine va_astq C.1 C.2.1 hK hP hD hS k t0 x z_hc ((z_ws_at hk).trans (by rw [z_cell_a5 ht])) ht0 ((z_ws_at hx).trans (by rw [z_cell_o hx0 hx1])) (by rfl) hj hd (fun H1 locs1 p1 d1 s1 => ?_)
  rw [z_ws_set (ad := ad) (ac := ac) (m := m) (m' := (m.1, z_u m.2.1 k j.toNatClampNeg (some x), m.2.2.1, m.2.2.2)) rfl ((z_cell_a5 ht).trans (by congr 8; funext b; simp only [z_u_at, va_up]; split <;> rfl)) (fun q hq => z_cell_nr hq)] at p1 d1
  have h2 := h.2 ad ac tys H1 locs1 ls ⟨hK, p1, d1, s1, hty, z_wf_r hk hx hw, hn0, had⟩ hl (fun w g => ho w (List.mem_cons_of_mem _ (List.mem_cons_of_mem _ (List.mem_cons_of_mem _ g)))) hvv
  rw [hn] at h2
  exact h2
theorem zs_alen (C : z_Cx p s mt args meth c own cc nL ini rt) {ip k : Nat} {lv : zL} {r : List Value} {m : zM} (hd : decode cc (z_pc cd ip) = .ok (.arraylength, 1)) (hn : z_pc cd (ip + 1) = z_pc cd ip + 1) (ht : 0 < z_tk k ∧ z_tk k < 6) (h : z_G p l e R s mt args below meth c Q D A sa ad0 n0 nf nL (z_pc cd) (ip + 1) lv (.int (Int32.ofNat (z_tn k)) :: r) m) : z_G p l e R s mt args below meth c Q D A sa ad0 n0 nf nL (z_pc cd) ip lv (.ref k :: r) m := by
  refine ⟨h.1, fun ad ac tys H locs ls hSt hl ho hvv => ?_⟩
  obtain ⟨hK, hP, hD, hS, hty, hw, hn0, had⟩ := id hSt
  have hk : k < m.1 := z_k_lt (ho _ List.mem_cons_self) (by omega)
  have h200 : k < 200 := Nat.lt_of_lt_of_le hk hw.2.2
  have h2 := h.2 ad ac tys H locs ls hSt hl (fun w hw2 => by
    rcases List.mem_cons.mp hw2 with rfl | g
    · simp [z_okv]
    · exact ho w (List.mem_cons_of_mem _ g)) hvv
  rw [hn] at h2
  show W p l e R s mt args below meth c H locs _ _ Q (F0 mt _ ls (z_tr ad sa (.ref k) :: r.map (z_tr ad sa)))
  rw [z_tr_ref h200]
  obtain ⟨t1, t2⟩ := ht
  have hcs : z_tk k = 1 ∨ z_tk k = 2 ∨ z_tk k = 3 ∨ z_tk k = 4 ∨ z_tk k = 5 := by omega
  rcases hcs with g | g | g | g | g
  · obtain ⟨t0, ht0⟩ := List.mem_iff_getElem?.mp (hty k .int hk (by rw [g]; rfl))
    exact va_alen (x := (z_tn k, .inl (m.2.2.1 k))) C.1 C.2.1 hK hP k t0 ((z_ws_at hk).trans (by rw [z_cell_a1 g])) ht0 rfl hd h2
  · obtain ⟨t0, ht0⟩ := List.mem_iff_getElem?.mp (hty k .byte hk (by rw [g]; rfl))
    exact va_alen (x := (z_tn k, .inl (m.2.2.1 k))) C.1 C.2.1 hK hP k t0 ((z_ws_at hk).trans (by rw [z_cell_a2 g])) ht0 rfl hd h2
  · obtain ⟨t0, ht0⟩ := List.mem_iff_getElem?.mp (hty k .boolean hk (by rw [g]; rfl))
    exact va_alen (x := (z_tn k, .inl (m.2.2.1 k))) C.1 C.2.1 hK hP k t0 ((z_ws_at hk).trans (by rw [z_cell_a3 g])) ht0 rfl hd h2
  · obtain ⟨t0, ht0⟩ := List.mem_iff_getElem?.mp (hty k .long hk (by rw [g]; rfl))
    exact va_alen (x := (z_tn k, .inr (.inl (m.2.2.2 k)))) C.1 C.2.1 hK hP k t0 ((z_ws_at hk).trans (by rw [z_cell_a4 g])) ht0 rfl hd h2
  · obtain ⟨t0, ht0⟩ := List.mem_iff_getElem?.mp (hty k (.object "LongBoats$Harbour") hk (by rw [g]; rfl))
    exact va_alen (x := (z_tn k, .inr (.inr (.inr (.inr (fun j => (m.2.1 k j).map ad)))))) C.1 C.2.1 hK hP k t0 ((z_ws_at hk).trans (by rw [z_cell_a5 g])) ht0 rfl hd h2
end ZS
end
section
/-! new cells, Object's constructor, the script, Math, strings' places, returns -/
theorem z_sl_succ (n : Nat) : z_sl (n + 1) = z_sl n + z_sz n := rfl
theorem z_sl_mono {a b : Nat} (h : a ≤ b) : z_sl a ≤ z_sl b := by
  induction b with
  | zero => have : a = 0 := by omega
            subst this; exact Nat.le_refl _
  | succ b ih =>
    rcases Nat.lt_or_ge a (b + 1) with g | g
    · exact Nat.le_trans (ih (by omega)) (by rw [z_sl_succ]; exact Nat.le_add_right _ _)
    · have : a = b + 1 := by omega
      subst this; exact Nat.le_refl _
def z_Rm (R : Room) (n0 nf : Nat) : Prop := nf - n0 ≤ R.cells ∧ z_sl nf - z_sl n0 ≤ R.slots ∧ 8 ≤ R.frames ∧ 400 ≤ R.locals
def z_ad (ad : Nat → Nat) (n q : Nat) : Nat → Nat := fun k => if k = n then q else ad k
def z_ac (ac : Nat → ClassId) (n : Nat) (cA : ClassId) : Nat → ClassId := fun k => if k = n then cA else ac k
theorem z_ad_lt {ad : Nat → Nat} {n q k : Nat} (h : k < n) : z_ad ad n q k = ad k := by
  have : k ≠ n := by omega
  simp [z_ad, this]
theorem z_map_lt {ad : Nat → Nat} {n q : Nat} {r : Option Nat} (h : ∀ j, r = some j → j < n) : r.map (z_ad ad n q) = r.map ad := by
  cases r with
  | none => rfl
  | some j => simp [z_ad_lt (h j rfl)]
theorem z_cell_new {ad : Nat → Nat} {ac : Nat → ClassId} {m : zM} {k q : Nat} {cA : ClassId} (hw : z_wf m) (hk : k < m.1) : z_cell (z_ad ad m.1 q) (z_ac ac m.1 cA) (m.1 + 1, m.2) k = z_cell ad ac m k := by
  have hne : k ≠ m.1 := by omega
  have e1 : ∀ f, (m.2.1 k f).map (z_ad ad m.1 q) = (m.2.1 k f).map ad := fun f => z_map_lt (fun j hj => hw.1 k f j hj)
  simp only [z_cell, z_fs, z_fv, e1, z_ac, if_neg hne]
theorem z_ws_new {ad : Nat → Nat} {ac : Nat → ClassId} {m : zM} {q : Nat} {cA : ClassId} {ce : va_E} (hw : z_wf m) (hc : z_cell (z_ad ad m.1 q) (z_ac ac m.1 cA) (m.1 + 1, m.2) m.1 = ce) : z_ws ad ac m ++ [(q, ce)] = z_ws (z_ad ad m.1 q) (z_ac ac m.1 cA) (m.1 + 1, m.2) := by
  have h1 : z_ws (z_ad ad m.1 q) (z_ac ac m.1 cA) (m.1 + 1, m.2) = (List.range (m.1 + 1)).map (fun k => (z_ad ad m.1 q k, z_cell (z_ad ad m.1 q) (z_ac ac m.1 cA) (m.1 + 1, m.2) k)) := rfl
  rw [h1, List.range_succ, List.map_append]
  congr 1
  · apply List.map_congr_left
    intro k hk
    have := List.mem_range.mp hk
    rw [z_ad_lt this, z_cell_new hw this]
  · simp [z_ad, hc]
theorem z_wf_new {m : zM} (hw : z_wf m) (h : m.1 < 200) : z_wf (m.1 + 1, m.2) :=
  ⟨fun k f j hj => Nat.lt_succ_of_lt (hw.1 k f j hj), fun k hk f => hw.2.1 k (by have : m.1 + 1 ≤ k := hk; omega) f, h⟩
theorem z_tr_new {ad sa : Nat → Nat} {n q : Nat} {v : Value} (hn : n < 200) (h : z_okv n v) : z_tr (z_ad ad n q) sa v = z_tr ad sa v := by
  cases v with
  | ref k =>
    have h2 : z_sb = 1000000 := rfl
    simp only [z_tr]
    rcases h with h | h
    · rw [z_ad_lt h]
    · rw [if_neg (Nat.not_lt.mpr h.1), if_neg (Nat.not_lt.mpr h.1)]
  | _ => rfl
theorem z_okv_mono {a b : Nat} (h : a ≤ b) {v : Value} (hv : z_okv a v) : z_okv b v := by
  cases v with
  | ref k =>
    rcases hv with g | g
    · exact Or.inl (Nat.lt_of_lt_of_le g h)
    · exact Or.inr g
  | _ => trivial
section ZS

variable {p : Program} {l : Launch} {e : Env} {R : Room} {s : State} {mt : MethodId} {args : Array Value} {below : List Frame} {meth : Method} {c : Code} {Q : State → Prop} {D : va_G} {A : Nat → Prop} {sa sv ad0 : Nat → Nat} {n0 nf nL : Nat} {cd : List zI} {own : String} {cc : ByteArray} {ini : Bool} {rt : Option FieldType}

theorem zs_pushed (C : z_Cx p s mt args meth c own cc nL ini rt) {ip : Nat} {lv : zL} {r : List Value} {m : zM} (h : z_G p l e R s mt args below meth c Q D A sa ad0 n0 nf nL (z_pc cd) (ip + 1) lv (.ref m.1 :: r) (m.1 + 1, m.2)) (hm : m.1 < 200) {ad : Nat → Nat} {ac : Nat → ClassId} {tys tys' : List (ClassId × FieldType)} {H H1 : Heap} {locs : List Loc} {ls : Array Slot} {q : Nat} {cA : ClassId} {ce : va_E} (hSt : z_St D A s ad0 n0 m ad ac tys H locs) (hl : z_lv ad sa nL ls lv) (ho : ∀ v ∈ r, z_okv m.1 v) (hvv : ∀ k v, z_at lv k = some v → z_okv m.1 v)
    (hc : z_cell (z_ad ad m.1 q) (z_ac ac m.1 cA) (m.1 + 1, m.2) m.1 = ce) (hK : va_K D zC tys' s) (hP : va_P D zC (z_ws ad ac m ++ [(q, ce)]) H1) (hD : va_D A (z_ws ad ac m ++ [(q, ce)])) (hS : va_S A s.heap H1 locs) (hsub : ∀ x ∈ tys, x ∈ tys') (hnew : ∀ ty, z_aty (z_tk m.1) = some ty → (cA, ty) ∈ tys') {sz : Nat} (hsz : z_sz m.1 = sz) :
    W p l e R s mt args below meth c H1 locs (m.1 - n0 + 1) (z_sl m.1 - z_sl n0 + sz) Q (F0 mt (z_pc cd (ip + 1)) ls (.ref q :: r.map (z_tr ad sa))) := by
  obtain ⟨-, -, -, -, hty, hw, hn0, had⟩ := hSt
  rw [z_ws_new hw hc] at hP hD
  have e1 : m.1 - n0 + 1 = m.1 + 1 - n0 := by omega
  have e2 : z_sl m.1 - z_sl n0 + sz = z_sl (m.1 + 1) - z_sl n0 := by
    have := z_sl_mono hn0
    rw [z_sl_succ, hsz]
    omega
  have e3 : r.map (z_tr (z_ad ad m.1 q) sa) = r.map (z_tr ad sa) := List.map_congr_left (fun v hv => z_tr_new hm (ho v hv))
  have h2 := h.2 (z_ad ad m.1 q) (z_ac ac m.1 cA) tys' H1 locs ls ⟨hK, hP, hD, hS, fun k ty hk h9 => ?_, z_wf_new hw hm, (by show n0 ≤ m.1 + 1; omega), fun k hk => (z_ad_lt (by omega)).trans (had k hk)⟩ ⟨hl.1, hl.2.1, hl.2.2.1, fun k v hk => by rw [z_tr_new hm (hvv k v hk)]; exact hl.2.2.2 k v hk⟩ (fun v hv => ?_) (fun k v hk => z_okv_mono (Nat.le_succ _) (hvv k v hk))
  · have e4 : z_tr (z_ad ad m.1 q) sa (.ref m.1) = .ref q := by rw [z_tr_ref hm]; simp [z_ad]
    rw [List.map_cons, e3, e4] at h2
    rw [e1, e2]
    exact h2
  · by_cases hkm : k = m.1
    · subst hkm
      simp only [z_ac, if_pos rfl]
      exact hnew ty h9
    · have hk2 : k < m.1 + 1 := hk
      simp only [z_ac, if_neg hkm]
      exact hsub _ (hty k ty (by omega) h9)
  · rcases List.mem_cons.mp hv with rfl | g
    · exact Or.inl (Nat.lt_succ_self _)
    · exact z_okv_mono (Nat.le_succ _) (ho v g)
theorem zs_new (C : z_Cx p s mt args meth c own cc nL ini rt) (hR : z_Rm R n0 nf) (hA : ∀ q, s.heap.size ≤ q → A q) {ip i pl ci : Nat} {cr : vw_C} {lv : zL} {r : List Value} {m : zM} (hd : decode cc (z_pc cd ip) = .ok (.new i, 3)) (hn : z_pc cd (ip + 1) = z_pc cd ip + 3) (hcr : zC[ci]? = some cr) (hlk : Cond.classLink own i cr.1 ∈ z_tb) (ht : z_tk m.1 = 0) (hc : z_tn m.1 = ci)
    (h : z_G p l e R s mt args below meth c Q D A sa ad0 n0 nf nL (z_pc cd) (ip + 1) lv (.ref m.1 :: r) (m.1 + 1, m.2)) : z_G p l e R s mt args below meth c Q D A sa ad0 n0 nf nL (z_pc cd) ip lv r m := by
  have hle : m.1 + 1 ≤ nf := h.1
  refine ⟨by omega, fun ad ac tys H locs ls hSt hl ho hvv => ?_⟩
  obtain ⟨hK, hP, hD, hS, hty, hw, hn0, had⟩ := id hSt
  have hm : m.1 < 200 := z_tk_lt (by rw [ht]; decide)
  obtain ⟨c1, ⟨ty0, c2, c3⟩, c4, c5, c6, c7⟩ := z_ck _ _ hcr
  have hsz : z_sz m.1 = cr.2.2 := by simp only [z_sz, ht, hc, c7]
  have hs1 := z_sl_mono hle
  rw [z_sl_succ, hsz] at hs1
  have hs2 := z_sl_mono hn0
  obtain ⟨r1, r2, r3, r4⟩ := hR
  refine va_new (D := D) (ci := ci) (C := cr.1) (T := cr.2.1) (N := cr.2.2) (fs := z_fs ad m m.1 ci) C.1 C.2.1 C.2.2.2.2.2.1 c1 ty0 c2 C.2.2.2.2.1 (C.2.2.2.2.2.1 _ hlk) (C.2.2.2.2.2.1 _ c5) (C.2.2.2.2.2.1 _ c6) hK hP hD hS hA hcr (fun j hj => ?_) (by omega) (by omega) hd (fun q H1 p1 d1 s1 => ?_)
  · have hb := hw.2.1 m.1 (Nat.le_refl _) j
    have hkt := c3 j hj
    have hj2 : j < z_nf ci := by rw [← c7]; exact hj
    show defaultValue (ty0 j) = (z_fs ad m m.1 ci).getD j .null
    rw [List.getD_eq_getElem?_getD, z_fs_at hj2]
    show defaultValue (ty0 j) = z_fv ad m m.1 (z_fk ci j) j
    generalize z_fk ci j = kd at hkt ⊢
    generalize ty0 j = ty at hkt ⊢
    match kd, ty, hkt with
    | 0, .int, _ => simp only [z_fv, hb.2.1]; rfl
    | 1, .long, _ => simp only [z_fv, hb.2.2]; rfl
    | 2, .object _, _ => simp only [z_fv, hb.1]; rfl
    | 2, .array _, _ => simp only [z_fv, hb.1]; rfl
    | 3, .boolean, _ => simp only [z_fv, hb.2.1]; rfl
  · rw [← hn]
    refine zs_pushed (cA := ac 0) C h hm hSt hl ho hvv (by rw [z_cell_o ht hc]) hK (ce := .inr (ci, z_fs (z_ad ad m.1 q) (m.1 + 1, m.2) m.1 ci)) ?_ ?_ s1 (fun x hx => hx) (fun ty h9 => by rw [ht] at h9; cases h9) hsz
    all_goals
      have e : z_fs (z_ad ad m.1 q) (m.1 + 1, m.2) m.1 ci = z_fs ad m m.1 ci := by
        simp only [z_fs, z_fv, (fun f => (hw.2.1 m.1 (Nat.le_refl _) f).1)]
        rfl
      rw [e]
      assumption
theorem z_w_arr_int : Cond.arrayClass (newarray.typeOf .int) ∈ z_tb := z_word (q := 160) (by decide +kernel)
theorem zs_newa_int (C : z_Cx p s mt args meth c own cc nL ini rt) (hR : z_Rm R n0 nf) (hA : ∀ q, s.heap.size ≤ q → A q) {ip : Nat} {lv : zL} {r : List Value} {m : zM} (hd : decode cc (z_pc cd ip) = .ok (.newarray .int, 2)) (hn : z_pc cd (ip + 1) = z_pc cd ip + 2) (ht : z_tk m.1 = 1) (hlen : z_tn m.1 ≤ 2000)
    (h : z_G p l e R s mt args below meth c Q D A sa ad0 n0 nf nL (z_pc cd) (ip + 1) lv (.ref m.1 :: r) (m.1 + 1, m.2)) : z_G p l e R s mt args below meth c Q D A sa ad0 n0 nf nL (z_pc cd) ip lv (.int (Int32.ofNat (z_tn m.1)) :: r) m := by
  have hle : m.1 + 1 ≤ nf := h.1
  refine ⟨by omega, fun ad ac tys H locs ls hSt hl ho hvv => ?_⟩
  obtain ⟨hK, hP, hD, hS, hty, hw, hn0, had⟩ := id hSt
  have hm : m.1 < 200 := z_tk_lt (by rw [ht]; decide)
  have hsz : z_sz m.1 = z_tn m.1 := by simp only [z_sz, ht]
  have hs1 := z_sl_mono hle
  rw [z_sl_succ, hsz] at hs1
  have hs2 := z_sl_mono hn0
  obtain ⟨r1, r2, r3, r4⟩ := hR
  have hl31 : z_tn m.1 < 2 ^ 31 := by omega
  refine va_newa (atype := .int) (ty := .int) (D := D) (N' := z_tn m.1) (a0 := (z_tn m.1, .inl (m.2.2.1 m.1))) C.1 C.2.1 (C.2.2.2.2.2.1 _ z_w_arr_int) rfl hK hP hD hS hA (fun cA => ?_) (nI_pos hl31) (nI_clamp hl31) (by simp only [componentBytes]; omega) (by omega) (by omega) hd (fun q cA H1 k1 p1 d1 s1 => ?_)
  · rw [vp_cell_i]
    congr 1
    funext j
    rw [(hw.2.1 m.1 (Nat.le_refl _) j).2.1]
    rfl
  · rw [← hn]
    exact zs_pushed (cA := cA) C h hm hSt hl (fun v hv => ho v (List.mem_cons_of_mem _ hv)) hvv (by rw [z_cell_a1 ht]; simp [z_ac]) k1 p1 d1 s1 (fun x hx => List.mem_append_left _ hx) (fun ty h9 => by rw [ht] at h9; cases h9; exact List.mem_append_right _ List.mem_cons_self) hsz
theorem z_w_arr_byte : Cond.arrayClass (newarray.typeOf .byte) ∈ z_tb := z_word (q := 143) (by decide +kernel)
theorem zs_newa_byte (C : z_Cx p s mt args meth c own cc nL ini rt) (hR : z_Rm R n0 nf) (hA : ∀ q, s.heap.size ≤ q → A q) {ip : Nat} {lv : zL} {r : List Value} {m : zM} (hd : decode cc (z_pc cd ip) = .ok (.newarray .byte, 2)) (hn : z_pc cd (ip + 1) = z_pc cd ip + 2) (ht : z_tk m.1 = 2) (hlen : z_tn m.1 ≤ 2000)
    (h : z_G p l e R s mt args below meth c Q D A sa ad0 n0 nf nL (z_pc cd) (ip + 1) lv (.ref m.1 :: r) (m.1 + 1, m.2)) : z_G p l e R s mt args below meth c Q D A sa ad0 n0 nf nL (z_pc cd) ip lv (.int (Int32.ofNat (z_tn m.1)) :: r) m := by
  have hle : m.1 + 1 ≤ nf := h.1
  refine ⟨by omega, fun ad ac tys H locs ls hSt hl ho hvv => ?_⟩
  obtain ⟨hK, hP, hD, hS, hty, hw, hn0, had⟩ := id hSt
  have hm : m.1 < 200 := z_tk_lt (by rw [ht]; decide)
  have hsz : z_sz m.1 = z_tn m.1 := by simp only [z_sz, ht]
  have hs1 := z_sl_mono hle
  rw [z_sl_succ, hsz] at hs1
  have hs2 := z_sl_mono hn0
  obtain ⟨r1, r2, r3, r4⟩ := hR
  have hl31 : z_tn m.1 < 2 ^ 31 := by omega
  refine va_newa (atype := .byte) (ty := .byte) (D := D) (N' := z_tn m.1) (a0 := (z_tn m.1, .inl (m.2.2.1 m.1))) C.1 C.2.1 (C.2.2.2.2.2.1 _ z_w_arr_byte) rfl hK hP hD hS hA (fun cA => ?_) (nI_pos hl31) (nI_clamp hl31) (by simp only [componentBytes]; omega) (by omega) (by omega) hd (fun q cA H1 k1 p1 d1 s1 => ?_)
  · rw [vp_cell_i]
    congr 1
    funext j
    rw [(hw.2.1 m.1 (Nat.le_refl _) j).2.1]
    rfl
  · rw [← hn]
    exact zs_pushed (cA := cA) C h hm hSt hl (fun v hv => ho v (List.mem_cons_of_mem _ hv)) hvv (by rw [z_cell_a2 ht]; simp [z_ac]) k1 p1 d1 s1 (fun x hx => List.mem_append_left _ hx) (fun ty h9 => by rw [ht] at h9; cases h9; exact List.mem_append_right _ List.mem_cons_self) hsz
theorem z_w_arr_boolean : Cond.arrayClass (newarray.typeOf .boolean) ∈ z_tb := z_word (q := 1472) (by decide +kernel)
theorem zs_newa_boolean (C : z_Cx p s mt args meth c own cc nL ini rt) (hR : z_Rm R n0 nf) (hA : ∀ q, s.heap.size ≤ q → A q) {ip : Nat} {lv : zL} {r : List Value} {m : zM} (hd : decode cc (z_pc cd ip) = .ok (.newarray .boolean, 2)) (hn : z_pc cd (ip + 1) = z_pc cd ip + 2) (ht : z_tk m.1 = 3) (hlen : z_tn m.1 ≤ 2000)
    (h : z_G p l e R s mt args below meth c Q D A sa ad0 n0 nf nL (z_pc cd) (ip + 1) lv (.ref m.1 :: r) (m.1 + 1, m.2)) : z_G p l e R s mt args below meth c Q D A sa ad0 n0 nf nL (z_pc cd) ip lv (.int (Int32.ofNat (z_tn m.1)) :: r) m := by
  have hle : m.1 + 1 ≤ nf := h.1
  refine ⟨by omega, fun ad ac tys H locs ls hSt hl ho hvv => ?_⟩
  obtain ⟨hK, hP, hD, hS, hty, hw, hn0, had⟩ := id hSt
  have hm : m.1 < 200 := z_tk_lt (by rw [ht]; decide)
  have hsz : z_sz m.1 = z_tn m.1 := by simp only [z_sz, ht]
  have hs1 := z_sl_mono hle
  rw [z_sl_succ, hsz] at hs1
  have hs2 := z_sl_mono hn0
  obtain ⟨r1, r2, r3, r4⟩ := hR
  have hl31 : z_tn m.1 < 2 ^ 31 := by omega
  refine va_newa (atype := .boolean) (ty := .boolean) (D := D) (N' := z_tn m.1) (a0 := (z_tn m.1, .inl (m.2.2.1 m.1))) C.1 C.2.1 (C.2.2.2.2.2.1 _ z_w_arr_boolean) rfl hK hP hD hS hA (fun cA => ?_) (nI_pos hl31) (nI_clamp hl31) (by simp only [componentBytes]; omega) (by omega) (by omega) hd (fun q cA H1 k1 p1 d1 s1 => ?_)
  · rw [vp_cell_i]
    congr 1
    funext j
    rw [(hw.2.1 m.1 (Nat.le_refl _) j).2.1]
    rfl
  · rw [← hn]
    exact zs_pushed (cA := cA) C h hm hSt hl (fun v hv => ho v (List.mem_cons_of_mem _ hv)) hvv (by rw [z_cell_a3 ht]; simp [z_ac]) k1 p1 d1 s1 (fun x hx => List.mem_append_left _ hx) (fun ty h9 => by rw [ht] at h9; cases h9; exact List.mem_append_right _ List.mem_cons_self) hsz
theorem z_w_arr_long : Cond.arrayClass (newarray.typeOf .long) ∈ z_tb := z_word (q := 281) (by decide +kernel)
theorem zs_newa_long (C : z_Cx p s mt args meth c own cc nL ini rt) (hR : z_Rm R n0 nf) (hA : ∀ q, s.heap.size ≤ q → A q) {ip : Nat} {lv : zL} {r : List Value} {m : zM} (hd : decode cc (z_pc cd ip) = .ok (.newarray .long, 2)) (hn : z_pc cd (ip + 1) = z_pc cd ip + 2) (ht : z_tk m.1 = 4) (hlen : z_tn m.1 ≤ 2000)
    (h : z_G p l e R s mt args below meth c Q D A sa ad0 n0 nf nL (z_pc cd) (ip + 1) lv (.ref m.1 :: r) (m.1 + 1, m.2)) : z_G p l e R s mt args below meth c Q D A sa ad0 n0 nf nL (z_pc cd) ip lv (.int (Int32.ofNat (z_tn m.1)) :: r) m := by
  have hle : m.1 + 1 ≤ nf := h.1
  refine ⟨by omega, fun ad ac tys H locs ls hSt hl ho hvv => ?_⟩
  obtain ⟨hK, hP, hD, hS, hty, hw, hn0, had⟩ := id hSt
  have hm : m.1 < 200 := z_tk_lt (by rw [ht]; decide)
  have hsz : z_sz m.1 = z_tn m.1 := by simp only [z_sz, ht]
  have hs1 := z_sl_mono hle
  rw [z_sl_succ, hsz] at hs1
  have hs2 := z_sl_mono hn0
  obtain ⟨r1, r2, r3, r4⟩ := hR
  have hl31 : z_tn m.1 < 2 ^ 31 := by omega
  refine va_newa (atype := .long) (ty := .long) (D := D) (N' := z_tn m.1) (a0 := (z_tn m.1, .inr (.inl (m.2.2.2 m.1)))) C.1 C.2.1 (C.2.2.2.2.2.1 _ z_w_arr_long) rfl hK hP hD hS hA (fun cA => ?_) (nI_pos hl31) (nI_clamp hl31) (by simp only [componentBytes]; omega) (by omega) (by omega) hd (fun q cA H1 k1 p1 d1 s1 => ?_)
  · rw [vp_cell_l]
    congr 1
    funext j
    rw [(hw.2.1 m.1 (Nat.le_refl _) j).2.2]
    rfl
  · rw [← hn]
    exact zs_pushed (cA := cA) C h hm hSt hl (fun v hv => ho v (List.mem_cons_of_mem _ hv)) hvv (by rw [z_cell_a4 ht]; simp [z_ac]) k1 p1 d1 s1 (fun x hx => List.mem_append_left _ hx) (fun ty h9 => by rw [ht] at h9; cases h9; exact List.mem_append_right _ List.mem_cons_self) hsz
theorem zs_anewa (C : z_Cx p s mt args meth c own cc nL ini rt) (hover : va_AO "LongBoats$Harbour" s) (hR : z_Rm R n0 nf) (hA : ∀ q, s.heap.size ≤ q → A q) {ip i : Nat} {lv : zL} {r : List Value} {m : zM} (hd : decode cc (z_pc cd ip) = .ok (.anewarray i, 3)) (hn : z_pc cd (ip + 1) = z_pc cd ip + 3) (hlk : Cond.classLink own i "LongBoats$Harbour" ∈ z_tb) (ht : z_tk m.1 = 5) (hlen : z_tn m.1 ≤ 2000)
    (h : z_G p l e R s mt args below meth c Q D A sa ad0 n0 nf nL (z_pc cd) (ip + 1) lv (.ref m.1 :: r) (m.1 + 1, m.2)) : z_G p l e R s mt args below meth c Q D A sa ad0 n0 nf nL (z_pc cd) ip lv (.int (Int32.ofNat (z_tn m.1)) :: r) m := by
  have hle : m.1 + 1 ≤ nf := h.1
  refine ⟨by omega, fun ad ac tys H locs ls hSt hl ho hvv => ?_⟩
  obtain ⟨hK, hP, hD, hS, hty, hw, hn0, had⟩ := id hSt
  have hm : m.1 < 200 := z_tk_lt (by rw [ht]; decide)
  have hsz : z_sz m.1 = z_tn m.1 := by simp only [z_sz, ht]
  have hs1 := z_sl_mono hle
  rw [z_sl_succ, hsz] at hs1
  have hs2 := z_sl_mono hn0
  obtain ⟨r1, r2, r3, r4⟩ := hR
  have hl31 : z_tn m.1 < 2 ^ 31 := by omega
  refine va_newq (C := "LongBoats$Harbour") (D := D) (N' := z_tn m.1) C.1 C.2.1 C.2.2.2.2.1 (C.2.2.2.2.2.1 _ hlk) hover hK hP hD hS hA (nI_pos hl31) (nI_clamp hl31) (by omega) (by omega) (by omega) hd (fun q cA H1 k1 p1 d1 s1 => ?_)
  rw [← hn]
  exact zs_pushed (cA := cA) C h hm hSt hl (fun v hv => ho v (List.mem_cons_of_mem _ hv)) hvv (by rw [z_cell_a5 ht]; simp [z_ac, (fun f => (hw.2.1 m.1 (Nat.le_refl _) f).1)]) k1 p1 d1 s1 (fun x hx => List.mem_append_left _ hx) (fun ty h9 => by rw [ht] at h9; cases h9; exact List.mem_append_right _ List.mem_cons_self) hsz
end ZS
end
section
/-! Object's constructor, the script, Math, strings' places, returns -/
/-- what is known of the start beside the words: strings, and the like -/
def z_En (sa sv : Nat → Nat) (A : Nat → Prop) (U : State) (H : Heap) : Prop :=
  va_AO "LongBoats$Harbour" U ∧ (∀ k : Nat, 0 < k → k < 43 → vk_R (z_sk k).1 (z_sk k).2.1 (z_sk k).2.2 (sa k) U ∧ va_O "java/lang/String" (sa k) A U H ∧ va_OF "java/lang/String" "coder" "B" (.int 0) (sa k) A U H ∧ va_OF "java/lang/String" "value" "[B" (.ref (sv k)) (sa k) A U H ∧ va_T .byte (sv k) (z_tx k).length (fun j => .int ((z_tx k).getD j 0)) A U H) ∧ va_Z "java/lang/String" "COMPACT_STRINGS" "Z" (.int 1) A U H ∧ (∀ w ∈ z_nw, va_Nw w U) ∧ va_Zq "jdk/internal/util/Preconditions" "SIOOBE_FORMATTER" "Ljava/util/function/BiFunction;" A U H
theorem z_wordN {q : Nat} {w : Cond} (h : z_atN q w = true) : w ∈ z_nw := by
  simp only [z_atN, Bool.and_eq_true, decide_eq_true_eq] at h
  exact List.mem_filter.mpr ⟨List.mem_of_getElem? h.1, h.2⟩
theorem z_En_move {sa sv : Nat → Nat} {A B : Nat → Prop} {s U : State} {H : Heap} (En : z_En sa sv A s s.heap) (hW : s.WarmedH U.vm) (hU : U.heap = H) (hk : ∀ q : Nat, q < s.heap.size → ¬ A q → H[q]? = s.heap[q]?) (hAB : ∀ q, B q → A q) : z_En sa sv B U U.heap := by
  rw [hU]
  have ha := hW.alike
  refine ⟨En.1.moved ha, fun k h0 h1 => ?_, ((En.2.2.1.kept hk).moved ha).narrow hAB, fun w hw => ?_, ((En.2.2.2.2.kept hk).moved ha).narrow hAB⟩
  · obtain ⟨e1, e2, e3, e4, e5⟩ := En.2.1 k h0 h1
    exact ⟨vk_R.warm hW e1, ((e2.kept hk).moved ha).narrow hAB, ((e3.kept hk).moved ha).narrow hAB, ((e4.kept hk).moved ha).narrow hAB, ((e5.kept hk).moved ha).narrow hAB⟩
  · have h1 := (List.mem_filter.mp hw).2
    have h2 := En.2.2.2.1 w hw
    cases w <;> first | exact va_Nw.warmM hW h2 | cases h1
theorem z_En_call {sa sv : Nat → Nat} {A : Nat → Prop} {U : State} {g : JFrame} {mk : MethodId} {a : Array Value} (En : z_En sa sv A U U.heap) : z_En sa sv A (U.calling g mk a) (U.calling g mk a).heap := by
  have ha : U.vm.Alike (U.calling g mk a).vm := Vm.Alike.refl U.vm
  refine ⟨En.1.moved ha, fun k h0 h1 => ?_, En.2.2.1.moved ha, fun w hw => ?_, En.2.2.2.2.moved ha⟩
  · obtain ⟨e1, e2, e3, e4, e5⟩ := En.2.1 k h0 h1
    exact ⟨vk_R.same (u := U) rfl e1, e2.moved ha, e3.moved ha, e4.moved ha, e5.moved ha⟩
  · have h1 := (List.mem_filter.mp hw).2
    have h2 := En.2.2.2.1 w hw
    cases w <;> first | exact va_Nw.same (u := U) rfl rfl h2 | cases h1
theorem z_cs_eq (st : List Value) : z_cs st = (st.map fun v => v.category).sum := by
  induction st with
  | nil => rfl
  | cons v t ih => simp only [z_cs, ih, List.map_cons, List.sum_cons]; cases v <;> rfl
theorem z_cs_tr (ad sa : Nat → Nat) (st : List Value) : ((st.map (z_tr ad sa)).map fun v => v.category).sum = z_cs st := by
  rw [z_cs_eq]
  congr 1
  rw [List.map_map]
  apply List.map_congr_left
  intro v _
  exact z_tr_cat ad sa v
theorem z_w_oi : Cond.instanceMethod objectInit ∈ z_tb := z_word (q := 128) (by decide +kernel)
theorem z_w_oc : Cond.code objectInit ⟨#[0xb1]⟩ 1 none ∈ z_tb := z_word (q := 129) (by decide +kernel)
theorem z_w_min_s : Cond.static Lib.Math.min.name ∈ z_tb := z_word (q := 539) (by decide +kernel)
theorem z_w_min_c : Cond.code Lib.Math.min.name Lib.Math.min.code 2 (some .int) ∈ z_tb := z_word (q := 540) (by decide +kernel)
theorem z_w_max_s : Cond.static Lib.Math.max.name ∈ z_tb := z_word (q := 1640) (by decide +kernel)
theorem z_w_max_c : Cond.code Lib.Math.max.name Lib.Math.max.code 2 (some .int) ∈ z_tb := z_word (q := 1641) (by decide +kernel)
theorem z_w_abs_s : Cond.static Lib.Math.abs.name ∈ z_tb := z_word (q := 1048) (by decide +kernel)
theorem z_w_abs_c : Cond.code Lib.Math.abs.name Lib.Math.abs.code 1 (some .int) ∈ z_tb := z_word (q := 1049) (by decide +kernel)
theorem z_w_math : Cond.initialized "java/lang/Math" ∈ z_tb := z_word (q := 117) (by decide +kernel)
section ZS
variable {p : Program} {l : Launch} {e : Env} {R : Room} {s : State} {mt : MethodId} {args : Array Value} {below : List Frame} {meth : Method} {c : Code} {Q : State → Prop} {D : va_G} {A : Nat → Prop} {sa sv ad0 : Nat → Nat} {n0 nf nL : Nat} {cd : List zI} {own : String} {cc : ByteArray} {ini : Bool} {rt : Option FieldType}

theorem zs_oinit (C : z_Cx p s mt args meth c own cc nL ini rt) (hR : z_Rm R n0 nf) {ip i k : Nat} {lv : zL} {r : List Value} {m : zM} (hcs : z_cs r ≤ 8) (hd : decode cc (z_pc cd ip) = .ok (.invokespecial i, 3)) (hn : z_pc cd (ip + 1) = z_pc cd ip + 3) (hlk : Cond.methodLink own i objectInit ∈ z_tb) (h : z_G p l e R s mt args below meth c Q D A sa ad0 n0 nf nL (z_pc cd) (ip + 1) lv r m) : z_G p l e R s mt args below meth c Q D A sa ad0 n0 nf nL (z_pc cd) ip lv (.ref k :: r) m := by
  refine zs_step (fun ho hv w q => ho w (List.mem_cons_of_mem _ q)) (fun ad H locs ls hl kk => ?_) h
  rw [hn] at kk
  refine W.objInit C.1 C.2.1 C.2.2.2.2.1 (C.2.2.2.2.2.1 _ hlk) (C.2.2.2.2.2.1 _ z_w_oi) (C.2.2.2.2.2.1 _ z_w_oc) rfl (hl.1.trans C.2.2.2.1.symm) rfl hd (by have := hR.2.2.1; omega) ?_ kk
  have h4 := hR.2.2.2
  have h5 : (F0 mt (z_pc cd ip) ls ((z_tr ad sa (.ref k)) :: r.map (z_tr ad sa))).monitorRoom = 0 := rfl
  show 2 * (F0 mt (z_pc cd ip) ls ((z_tr ad sa (.ref k)) :: r.map (z_tr ad sa))).monitorRoom + ((r.map (z_tr ad sa)).map fun v => v.category).sum + 12 ≤ R.locals
  rw [z_cs_tr, h5]
  omega
theorem zs_min (C : z_Cx p s mt args meth c own cc nL ini rt) (hR : z_Rm R n0 nf) {ip i : Nat} {lv : zL} {r : List Value} {m : zM} {y x : Int32} (hcs : z_cs r ≤ 8) (hd : decode cc (z_pc cd ip) = .ok (.invokestatic i, 3)) (hn : z_pc cd (ip + 1) = z_pc cd ip + 3) (hlk : Cond.methodLink own i Lib.Math.min.name ∈ z_tb) (h : z_G p l e R s mt args below meth c Q D A sa ad0 n0 nf nL (z_pc cd) (ip + 1) lv (.int (if y < x then y else x) :: r) m) : z_G p l e R s mt args below meth c Q D A sa ad0 n0 nf nL (z_pc cd) ip lv (.int y :: .int x :: r) m := by
  refine ⟨h.1, fun ad ac tys H locs ls hSt hl ho hvv => ?_⟩
  have h2 := h.2 ad ac tys H locs ls hSt hl (fun v hv => by
    rcases List.mem_cons.mp hv with rfl | g
    · simp [z_okv]
    · exact ho v (List.mem_cons_of_mem _ (List.mem_cons_of_mem _ g))) hvv
  rw [hn] at h2
  obtain ⟨r1, r2, r3, r4⟩ := hR
  have h1 := h.1
  have hn0 := hSt.2.2.2.2.2.2.1
  have hs1 := z_sl_mono h1
  refine va_mmin C.1 C.2.1 (C.2.2.2.1.trans hl.1.symm) C.2.2.2.2.1 (C.2.2.2.2.2.1 _ hlk) (C.2.2.2.2.2.1 _ z_w_min_s) (C.2.2.2.2.2.1 _ z_w_math) (C.2.2.2.2.2.1 _ z_w_min_c) (by omega) (by rw [z_cs_tr]; omega) (by omega) (by omega) hd h2
theorem zs_max (C : z_Cx p s mt args meth c own cc nL ini rt) (hR : z_Rm R n0 nf) {ip i : Nat} {lv : zL} {r : List Value} {m : zM} {y x : Int32} (hcs : z_cs r ≤ 8) (hd : decode cc (z_pc cd ip) = .ok (.invokestatic i, 3)) (hn : z_pc cd (ip + 1) = z_pc cd ip + 3) (hlk : Cond.methodLink own i Lib.Math.max.name ∈ z_tb) (h : z_G p l e R s mt args below meth c Q D A sa ad0 n0 nf nL (z_pc cd) (ip + 1) lv (.int (if x < y then y else x) :: r) m) : z_G p l e R s mt args below meth c Q D A sa ad0 n0 nf nL (z_pc cd) ip lv (.int y :: .int x :: r) m := by
  refine ⟨h.1, fun ad ac tys H locs ls hSt hl ho hvv => ?_⟩
  have h2 := h.2 ad ac tys H locs ls hSt hl (fun v hv => by
    rcases List.mem_cons.mp hv with rfl | g
    · simp [z_okv]
    · exact ho v (List.mem_cons_of_mem _ (List.mem_cons_of_mem _ g))) hvv
  rw [hn] at h2
  obtain ⟨r1, r2, r3, r4⟩ := hR
  have h1 := h.1
  have hn0 := hSt.2.2.2.2.2.2.1
  have hs1 := z_sl_mono h1
  refine va_mmax C.1 C.2.1 (C.2.2.2.1.trans hl.1.symm) C.2.2.2.2.1 (C.2.2.2.2.2.1 _ hlk) (C.2.2.2.2.2.1 _ z_w_max_s) (C.2.2.2.2.2.1 _ z_w_math) (C.2.2.2.2.2.1 _ z_w_max_c) (by omega) (by rw [z_cs_tr]; omega) (by omega) (by omega) hd h2
theorem zs_abs (C : z_Cx p s mt args meth c own cc nL ini rt) (hR : z_Rm R n0 nf) {ip i : Nat} {lv : zL} {r : List Value} {m : zM} {x : Int32} (hcs : z_cs r ≤ 8) (hd : decode cc (z_pc cd ip) = .ok (.invokestatic i, 3)) (hn : z_pc cd (ip + 1) = z_pc cd ip + 3) (hlk : Cond.methodLink own i Lib.Math.abs.name ∈ z_tb) (h : z_G p l e R s mt args below meth c Q D A sa ad0 n0 nf nL (z_pc cd) (ip + 1) lv (.int (if 0 ≤ x then x else 0 - x) :: r) m) : z_G p l e R s mt args below meth c Q D A sa ad0 n0 nf nL (z_pc cd) ip lv (.int x :: r) m := by
  refine ⟨h.1, fun ad ac tys H locs ls hSt hl ho hvv => ?_⟩
  have h2 := h.2 ad ac tys H locs ls hSt hl (fun v hv => by
    rcases List.mem_cons.mp hv with rfl | g
    · simp [z_okv]
    · exact ho v (List.mem_cons_of_mem _ g)) hvv
  rw [hn] at h2
  obtain ⟨r1, r2, r3, r4⟩ := hR
  have h1 := h.1
  have hn0 := hSt.2.2.2.2.2.2.1
  have hs1 := z_sl_mono h1
  refine va_mabs C.1 C.2.1 (C.2.2.2.1.trans hl.1.symm) C.2.2.2.2.1 (C.2.2.2.2.2.1 _ hlk) (C.2.2.2.2.2.1 _ z_w_abs_s) (C.2.2.2.2.2.1 _ z_w_math) (C.2.2.2.2.2.1 _ z_w_abs_c) (by omega) (by rw [z_cs_tr]; omega) (by omega) (by omega) hd h2
theorem zs_ldcs (C : z_Cx p s mt args meth c own cc nL ini rt) (En : z_En sa sv A s s.heap) {ip i k : Nat} {lv : zL} {st : List Value} {m : zM} (hd : decode cc (z_pc cd ip) = .ok (.ldc i, 2)) (hn : z_pc cd (ip + 1) = z_pc cd ip + 2) (h0 : 0 < k) (h43 : k < 43) (ho1 : (z_sk k).1 = own) (hi : (z_sk k).2.1 = i) (h : z_G p l e R s mt args below meth c Q D A sa ad0 n0 nf nL (z_pc cd) (ip + 1) lv (.ref (z_sb + k) :: st) m) : z_G p l e R s mt args below meth c Q D A sa ad0 n0 nf nL (z_pc cd) ip lv st m := by
  refine zs_step (fun ho hv v hv2 => ?_) (fun ad H locs ls hl kk => ?_) h
  · rcases List.mem_cons.mp hv2 with rfl | g
    · exact Or.inr ⟨Nat.le_add_right _ _, Nat.add_lt_add_left h43 _⟩
    · exact ho v g
  · rw [hn] at kk
    have e : z_tr ad sa (.ref (z_sb + k)) = .ref (sa k) := by
      simp only [z_tr]
      rw [if_neg (Nat.not_lt.mpr (Nat.le_add_right _ _)), Nat.add_sub_cancel_left]
    rw [List.map_cons, e] at kk
    have hz := (En.2.1 k h0 h43).1
    rw [ho1, hi] at hz
    exact va_ldcS C.1 C.2.1 C.2.2.2.2.1 hz hd kk
theorem zs_slen (C : z_Cx p s mt args meth c own cc nL ini rt) {L : Nat} {xs : Nat → Int32} (hX : va_X (sa 0) L xs s s.heap) (hb : sa 0 < s.heap.size) (hA : ¬ A (sa 0)) {ip : Nat} {lv : zL} {r : List Value} {m : zM} (hd : decode cc (z_pc cd ip) = .ok (.arraylength, 1)) (hn : z_pc cd (ip + 1) = z_pc cd ip + 1) (h : z_G p l e R s mt args below meth c Q D A sa ad0 n0 nf nL (z_pc cd) (ip + 1) lv (.int (Int32.ofNat L) :: r) m) : z_G p l e R s mt args below meth c Q D A sa ad0 n0 nf nL (z_pc cd) ip lv (.ref z_sb :: r) m := by
  refine ⟨h.1, fun ad ac tys H locs ls hSt hl ho hvv => ?_⟩
  have h2 := h.2 ad ac tys H locs ls hSt hl (fun v hv => by
    rcases List.mem_cons.mp hv with rfl | g
    · simp [z_okv]
    · exact ho v (List.mem_cons_of_mem _ g)) hvv
  rw [hn] at h2
  have e9 : z_tr ad sa (.ref z_sb) = .ref (sa 0) := by
    simp only [z_tr]
    rw [if_neg (Nat.lt_irrefl _), Nat.sub_self]
  show W p l e R s mt args below meth c H locs _ _ Q (F0 mt _ ls (z_tr ad sa (.ref z_sb) :: r.map (z_tr ad sa)))
  rw [e9]
  exact va_slen C.1 C.2.1 hX hb hA hSt.2.2.2.1 hd h2
theorem zs_sld (C : z_Cx p s mt args meth c own cc nL ini rt) {L : Nat} {xs : Nat → Int32} (hX : va_X (sa 0) L xs s s.heap) (hb : sa 0 < s.heap.size) (hA : ¬ A (sa 0)) {ip : Nat} {lv : zL} {r : List Value} {m : zM} {j : Int32} (hj : ¬ (j < 0 ∨ L ≤ j.toNatClampNeg)) (hd : decode cc (z_pc cd ip) = .ok (.iaload, 1)) (hn : z_pc cd (ip + 1) = z_pc cd ip + 1) (h : z_G p l e R s mt args below meth c Q D A sa ad0 n0 nf nL (z_pc cd) (ip + 1) lv (.int (xs j.toNatClampNeg) :: r) m) : z_G p l e R s mt args below meth c Q D A sa ad0 n0 nf nL (z_pc cd) ip lv (.int j :: .ref z_sb :: r) m := by
  refine ⟨h.1, fun ad ac tys H locs ls hSt hl ho hvv => ?_⟩
  have h2 := h.2 ad ac tys H locs ls hSt hl (fun v hv => by
    rcases List.mem_cons.mp hv with rfl | g
    · simp [z_okv]
    · exact ho v (List.mem_cons_of_mem _ (List.mem_cons_of_mem _ g))) hvv
  rw [hn] at h2
  have e9 : z_tr ad sa (.ref z_sb) = .ref (sa 0) := by
    simp only [z_tr]
    rw [if_neg (Nat.lt_irrefl _), Nat.sub_self]
  show W p l e R s mt args below meth c H locs _ _ Q (F0 mt _ ls (.int j :: z_tr ad sa (.ref z_sb) :: r.map (z_tr ad sa)))
  rw [e9]
  exact va_sld C.1 C.2.1 hX hb hA hSt.2.2.2.1 hj hd h2
end ZS
end
section
/-! CALLS: a method's contract out of the pure machine, and its use -/
def z_ws0 (k : Nat) : List Cond := .code (z_y k) (z_by k) (z_ml k) (z_rty k) :: z_tb
def z_rm (d mc ms : Nat) : Room := { frames := d + 8, cells := mc, slots := ms, locals := 60 * d + 400 }
def z_Pc (D : va_G) (sa sv ad : Nat → Nat) (ac : Nat → ClassId) (tys : List (ClassId × FieldType)) (m : zM) (as : List Value) (sz : Nat) : Array Value → State → Prop := va_Pc (as.map (z_tr ad sa)) (fun U => U.heap.size = sz ∧ va_P D zC (z_ws ad ac m) U.heap ∧ va_K D zC tys U ∧ va_D (fun _ => True) (z_ws ad ac m) ∧ (∀ k ty, k < m.1 → z_aty (z_tk k) = some ty → (ac k, ty) ∈ tys) ∧ z_wf m ∧ (∀ v ∈ as, z_okv m.1 v) ∧ z_En sa sv (va_A (z_ws ad ac m) sz) U U.heap)
def z_B (D : va_G) (ad : Nat → Nat) (n0 : Nat) (m' : zM) (A : Nat → Prop) : Unit → State → Prop := fun _ t => ∃ (ad' : Nat → Nat) (ac' : Nat → ClassId) (tys' : List (ClassId × FieldType)), va_K D zC tys' t ∧ va_P D zC (z_ws ad' ac' m') t.heap ∧ va_D A (z_ws ad' ac' m') ∧ (∀ k ty, k < m'.1 → z_aty (z_tk k) = some ty → (ac' k, ty) ∈ tys') ∧ z_wf m' ∧ ∀ k, k < n0 → ad' k = ad k
def z_Qc (D : va_G) (ad : Nat → Nat) (n0 : Nat) (v : Option Value) (m' : zM) (A : Nat → Prop) : Array Value → State → Outcome → State → Prop := match v with
  | some (.int x) => va_Qi (fun r (_ : Unit) => r = x) (z_B D ad n0 m' A) A
  | some (.long x) => va_Ql (fun r (_ : Unit) => r = x) (z_B D ad n0 m' A) A
  | _ => va_Qv (fun (_ : Unit) => v = none) (z_B D ad n0 m' A) A
def z_Met (l : Launch) (d k : Nat) (as : List Value) (m : zM) (v : Option Value) (m' : zM) : Prop := m.1 ≤ m'.1 ∧ ∀ (D : va_G) (sa sv ad : Nat → Nat) (ac : Nat → ClassId) (tys : List (ClassId × FieldType)) (sz : Nat),
  Met l (z_y k) (z_ws0 k) (z_rm d (m'.1 - m.1) (z_sl m'.1 - z_sl m.1)) (z_Pc D sa sv ad ac tys m as sz) (z_Qc D ad m.1 v m' (va_A (z_ws ad ac m) sz)) (m'.1 - m.1) (z_sl m'.1 - z_sl m.1) (va_A (z_ws ad ac m) sz)
theorem z_blind {D : va_G} {sa sv ad : Nat → Nat} {ac : Nat → ClassId} {tys : List (ClassId × FieldType)} {m : zM} {as : List Value} {sz : Nat} : FrameBlind (z_Pc D sa sv ad ac tys m as sz) := fun a U g mk q => by
  obtain ⟨q0, q1, qP, qK, qD, qt, qw, qo, qE⟩ := q
  exact ⟨q0, q1, qP, va_K.moved (u := U) (U := U.calling g mk a) (Vm.Alike.refl U.vm) qK, qD, qt, qw, qo, z_En_call qE⟩
theorem z_take_spec : ∀ {n : Nat} {st acc as r : List Value}, z_take n st acc = some (as, r) → ∃ bs : List Value, bs.length = n ∧ st = bs ++ r ∧ as = bs.reverse ++ acc
  | 0, st, acc, as, r, h => by
    simp only [z_take, Option.some.injEq, Prod.mk.injEq] at h
    exact ⟨[], rfl, h.2, h.1.symm⟩
  | n + 1, [], acc, as, r, h => by simp [z_take] at h
  | n + 1, v :: st, acc, as, r, h => by
    obtain ⟨bs, h1, h2, h3⟩ := z_take_spec (n := n) (st := st) (acc := v :: acc) h
    exact ⟨v :: bs, by simp [h1], by simp [h2], by simp [h3]⟩
theorem z_tr_ag {ad ad' sa : Nat → Nat} {n : Nat} (hn : n ≤ 200) (h : ∀ k, k < n → ad' k = ad k) {v : Value} (hv : z_okv n v) : z_tr ad' sa v = z_tr ad sa v := by
  cases v with
  | ref k =>
    simp only [z_tr]
    rcases hv with g | g
    · rw [h k g]
    · rw [if_neg (Nat.not_lt.mpr g.1), if_neg (Nat.not_lt.mpr g.1)]
  | _ => rfl
theorem z_goodIn {k : Nat} (hw : z_wdM k = true) : GoodIn z_tb (z_ws0 k) := by
  simp only [z_wdM, Bool.and_eq_true] at hw
  intro w h
  have hm : w ∈ z_tb := by
    rcases List.mem_cons.mp h with rfl | g
    · exact z_word hw.1.1.1.1.1.1
    · exact g
  exact ⟨hm, good_of_word (List.mem_filter.mp hm).2⟩
section ZS

variable {p : Program} {l : Launch} {e : Env} {R : Room} {s : State} {mt : MethodId} {args : Array Value} {below : List Frame} {meth : Method} {c : Code} {Q : State → Prop} {D : va_G} {A : Nat → Prop} {sa sv ad0 : Nat → Nat} {n0 nf nL : Nat} {cd : List zI} {own : String} {cc : ByteArray} {ini : Bool} {rt : Option FieldType}

theorem zs_after (C : z_Cx p s mt args meth c own cc nL ini rt) {ip : Nat} {lv : zL} {r : List Value} {m m' : zM} {vs : List Value} (hvs : ∀ v ∈ vs, z_okv 0 v) (hvt : ∀ ad' : Nat → Nat, vs.map (z_tr ad' sa) = vs) (hmm : m.1 ≤ m'.1) (h : z_G p l e R s mt args below meth c Q D A sa ad0 n0 nf nL (z_pc cd) (ip + 1) lv (vs ++ r) m') {ad : Nat → Nat} {ac : Nat → ClassId} {tys : List (ClassId × FieldType)} {H H1 : Heap} {locs locs1 : List Loc} {ls : Array Slot} (hSt : z_St D A s ad0 n0 m ad ac tys H locs) (hl : z_lv ad sa nL ls lv) (ho : ∀ v ∈ r, z_okv m.1 v) (hvv : ∀ k v, z_at lv k = some v → z_okv m.1 v)
    (hAA : ∀ q, va_A (z_ws ad ac m) H.size q → A q) {t : State} (ht : t.heap = H1) (hvm : s.vm.Alike t.vm) (hB : z_B D ad m.1 m' (va_A (z_ws ad ac m) H.size) () t) (hS1 : va_S A s.heap H1 locs1) :
    W p l e R s mt args below meth c H1 locs1 (m.1 - n0 + (m'.1 - m.1)) (z_sl m.1 - z_sl n0 + (z_sl m'.1 - z_sl m.1)) Q (F0 mt (z_pc cd (ip + 1)) ls (vs ++ r.map (z_tr ad sa))) := by
  obtain ⟨-, -, -, -, hty, hw, hn0, had⟩ := hSt
  obtain ⟨ad', ac', tys', k1, p1, d1, t1, w1, a1⟩ := hB
  rw [ht] at p1
  have hag : ∀ v, z_okv m.1 v → z_tr ad' sa v = z_tr ad sa v := fun v hv => z_tr_ag hw.2.2 a1 hv
  have h2 := h.2 ad' ac' tys' H1 locs1 ls ⟨va_K.moved hvm.symm k1, p1, ⟨d1.1, fun k q hq => hAA _ (d1.2 k q hq)⟩, hS1, t1, w1, Nat.le_trans hn0 hmm, fun k hk => (a1 k (Nat.lt_of_lt_of_le hk hn0)).trans (had k hk)⟩ ⟨hl.1, hl.2.1, hl.2.2.1, fun k v hk => by rw [hag v (hvv k v hk)]; exact hl.2.2.2 k v hk⟩ (fun v hv => ?_) (fun k v hk => z_okv_mono hmm (hvv k v hk))
  · have s1 := z_sl_mono hmm
    have s2 := z_sl_mono hn0
    have e1 : m.1 - n0 + (m'.1 - m.1) = m'.1 - n0 := by omega
    have e2 : z_sl m.1 - z_sl n0 + (z_sl m'.1 - z_sl m.1) = z_sl m'.1 - z_sl n0 := by omega
    have e3 : r.map (z_tr ad' sa) = r.map (z_tr ad sa) := List.map_congr_left (fun v hv => hag v (ho v hv))
    rw [List.map_append, e3, hvt] at h2
    rw [e1, e2]
    exact h2
  · rcases List.mem_append.mp hv with g | g
    · exact z_okv_mono (Nat.zero_le _) (hvs v g)
    · exact z_okv_mono hmm (ho v g)
/-- what comes behind a call, for each kind of answer -/
theorem zs_back (C : z_Cx p s mt args meth c own cc nL ini rt) (hA : ∀ q, s.heap.size ≤ q → A q) {ip : Nat} {lv : zL} {r : List Value} {m m' : zM} {v : Option Value} (hvk : v = none ∨ (∃ x, v = some (.int x)) ∨ ∃ x, v = some (.long x)) (hmm : m.1 ≤ m'.1) (hn : z_pc cd (ip + 1) = z_pc cd ip + 3) (h : z_G p l e R s mt args below meth c Q D A sa ad0 n0 nf nL (z_pc cd) (ip + 1) lv (v.toList ++ r) m') {ad : Nat → Nat} {ac : Nat → ClassId} {tys : List (ClassId × FieldType)} {H : Heap} {locs : List Loc} {ls : Array Slot} {st0 : List Value} {a : Array Value} (hSt : z_St D A s ad0 n0 m ad ac tys H locs) (hl : z_lv ad sa nL ls lv) (ho : ∀ v ∈ r, z_okv m.1 v) (hvv : ∀ k v, z_at lv k = some v → z_okv m.1 v)
    (hr : va_Run p l e R s mt args below meth c H locs (m.1 - n0) (z_sl m.1 - z_sl n0) (m'.1 - m.1) (z_sl m'.1 - z_sl m.1) (F0 mt (z_pc cd ip) ls st0) (r.map (z_tr ad sa)) (z_Qc D ad m.1 v m' (va_A (z_ws ad ac m) H.size) a) (va_A (z_ws ad ac m) H.size)) :
    W p l e R s mt args below meth c H locs (m.1 - n0) (z_sl m.1 - z_sl n0) Q (F0 mt (z_pc cd ip) ls st0) := by
  have hS := hSt.2.2.2.1
  have hAA : ∀ q, va_A (z_ws ad ac m) H.size q → A q := by
    intro q hq
    rcases hq with ⟨k, e9, hk⟩ | hq
    · exact hSt.2.2.1.2 k _ hk
    · exact hA q (Nat.le_trans hS.1 hq)
  rcases hvk with rfl | ⟨x, rfl⟩ | ⟨x, rfl⟩
  · refine va_callv (a := a) hr hS (fun q _ => hAA q) hAA (fun u t H1 locs1 ht hvm hpost hB hz hk hS1 => ?_)
    rw [← hn]
    exact zs_after (vs := []) C (fun v hv => absurd hv List.not_mem_nil) (fun _ => rfl) hmm h hSt hl ho hvv hAA ht hvm hB hS1
  · refine va_calli (a := a) hr hS (fun q _ => hAA q) hAA (fun y u t H1 locs1 ht hvm hpost hB hz hk hS1 => ?_)
    subst hpost
    rw [← hn]
    exact zs_after (vs := [.int y]) C (fun v hv => by have g := List.mem_singleton.mp hv; subst g; trivial) (fun _ => rfl) hmm h hSt hl ho hvv hAA ht hvm hB hS1
  · refine va_calll (a := a) hr hS (fun q _ => hAA q) hAA (fun y u t H1 locs1 ht hvm hpost hB hz hk hS1 => ?_)
    subst hpost
    rw [← hn]
    exact zs_after (vs := [.long y]) C (fun v hv => by have g := List.mem_singleton.mp hv; subst g; trivial) (fun _ => rfl) hmm h hSt hl ho hvv hAA ht hvm hB hS1
theorem zs_pre (C : z_Cx p s mt args meth c own cc nL ini rt) (En : z_En sa sv A s s.heap) (hA : ∀ q, s.heap.size ≤ q → A q) {as : List Value} {m : zM} {ad : Nat → Nat} {ac : Nat → ClassId} {tys : List (ClassId × FieldType)} {H : Heap} {locs : List Loc} (hSt : z_St D A s ad0 n0 m ad ac tys H locs) (ho : ∀ v ∈ as, z_okv m.1 v) : ∀ U : State, U.heap = H → s.WarmedH U.vm → z_Pc D sa sv ad ac tys m as H.size (as.map (z_tr ad sa)).toArray U := by
  intro U hU hW
  obtain ⟨hK, hP, hD, hS, hty, hw, hn0, had⟩ := hSt
  have hAA : ∀ q, va_A (z_ws ad ac m) H.size q → A q := by
    intro q hq
    rcases hq with ⟨k, e9, hk⟩ | hq
    · exact hD.2 k _ hk
    · exact hA q (Nat.le_trans hS.1 hq)
  exact ⟨rfl, by rw [hU], by rw [hU]; exact hP, va_K.moved hW.alike hK, hD.weaken (fun _ _ _ _ => trivial), hty, hw, ho, z_En_move En hW hU hS.2.1 hAA⟩
set_option maxRecDepth 8000 in
/-- the room a caller at depth d has -/
theorem z_roomC {R : Room} {d k mc ms : Nat} (hw : z_wdM k = true) (hf : d + 9 ≤ R.frames) (hl : 60 * d + 460 ≤ R.locals) : (z_rm d mc ms).frames + 1 ≤ R.frames ∧ 8 + (z_ml k + 11) + (z_rm d mc ms).locals ≤ R.locals := by
  simp only [z_wdM, Bool.and_eq_true, decide_eq_true_eq] at hw
  have h40 : z_ml k ≤ 40 := hw.2
  clear hw
  generalize z_ml k = q at h40 ⊢
  constructor
  · show d + 8 + 1 ≤ R.frames
    omega
  · show 8 + (q + 11) + (60 * d + 400) ≤ R.locals
    omega
theorem zs_callV (C : z_Cx p s mt args meth c own cc nL ini rt) (En : z_En sa sv A s s.heap) (hA : ∀ q, s.heap.size ≤ q → A q) (hR : z_Rm R n0 nf) {d : Nat} (hRf : d + 9 ≤ R.frames) (hRl : 60 * d + 460 ≤ R.locals) {ip i k : Nat} {lv : zL} {as r : List Value} {m m' : zM} {v : Option Value} (hwd : z_wdM k = true) (hvk : v = none ∨ (∃ x, v = some (.int x)) ∨ ∃ x, v = some (.long x)) (hM : z_Met l d k as m v m') (hn : z_pc cd (ip + 1) = z_pc cd ip + 3) (hcs : z_cs r ≤ 8) (hd : decode cc (z_pc cd ip) = .ok (.invokevirtual i, 3)) {rc ci : Nat} {as' : List Value} {cr : vw_C} (has : as = .ref rc :: as') (ht : z_tk rc = 0) (hc : z_tn rc = ci) (hcr : zC[ci]? = some cr) (hcy : cr.1 = (z_y k).cls) (hst : z_stc k = false) (hni : (z_y k).name ≠ "<init>") (hnp : (parseMethodDescriptor (z_y k).desc).map (fun d => d.parameters.length) = some as'.length) (hlk : Cond.methodLink own i (z_y k) ∈ z_tb)
    (h : z_G p l e R s mt args below meth c Q D A sa ad0 n0 nf nL (z_pc cd) (ip + 1) lv (v.toList ++ r) m') : z_G p l e R s mt args below meth c Q D A sa ad0 n0 nf nL (z_pc cd) ip lv (as.reverse ++ r) m := by
  refine ⟨Nat.le_trans hM.1 h.1, fun ad ac tys H locs ls hSt hl ho hvv => ?_⟩
  have hor : ∀ v ∈ r, z_okv m.1 v := fun v hv => ho v (List.mem_append_right _ hv)
  have hoa : ∀ v ∈ as, z_okv m.1 v := fun v hv => ho v (List.mem_append_left _ (List.mem_reverse.mpr hv))
  have hwd2 := hwd
  simp only [z_wdM, Bool.and_eq_true, decide_eq_true_eq] at hwd2
  obtain ⟨⟨⟨⟨⟨⟨w1, w2⟩, w3⟩, w4⟩, w5⟩, w6⟩, w7⟩ := hwd2
  obtain ⟨r1, r2, r3, r4⟩ := hR
  have hn0 := hSt.2.2.2.2.2.2.1
  have hle := h.1
  have hmm := hM.1
  have s1 := z_sl_mono hmm
  have s2 := z_sl_mono hn0
  have s3 := z_sl_mono hle
  have hk : rc < m.1 := z_k_lt (hoa _ (by rw [has]; exact List.mem_cons_self)) (by rw [ht]; decide)
  have hP := hSt.2.1
  have e5 : (as.reverse ++ r).map (z_tr ad sa) = (as'.map (z_tr ad sa)).reverse ++ .ref (ad rc) :: r.map (z_tr ad sa) := by
    rw [has, List.reverse_cons, List.append_assoc, List.map_append, List.map_reverse]
    show _ ++ (z_tr ad sa (.ref rc) :: r.map (z_tr ad sa)) = _
    rw [z_tr_ref (Nat.lt_of_lt_of_le hk hSt.2.2.2.2.2.1.2.2)]
  rw [e5]
  have hw4 : Cond.selects (z_y k).cls (z_y k) (z_y k) ∈ z_tb := by
    simp only [Bool.or_eq_true, decide_eq_true_eq] at w4
    rcases w4 with (g | g) | g
    · rw [hst] at g; cases g
    · exact absurd g hni
    · exact z_word g
  have hw2 : Cond.instanceMethod (z_y k) ∈ z_tb := by
    rw [hst] at w2
    exact z_word w2
  have pre := zs_pre C En hA hSt hoa
  have e6 : (as.map (z_tr ad sa)).toArray = (Value.ref (ad rc) :: as'.map (z_tr ad sa)).toArray := by
    rw [has, List.map_cons, z_tr_ref (Nat.lt_of_lt_of_le hk hSt.2.2.2.2.2.1.2.2)]
  rw [e6] at pre
  refine zs_back C hA hvk hmm hn h hSt hl hor hvv (va_runV (cc := cc) (nL := nL) (Ts := z_tb) (own := own) (C := (z_y k).cls) (As := as'.map (z_tr ad sa)) (b := ad rc) (rest := r.map (z_tr ad sa)) (n := as'.length) (index := i) ⟨C.1, C.2.1, C.2.2.2.1, C.2.2.2.2.1, C.2.2.2.2.2.1⟩ (hM.2 D sa sv ad ac tys H.size) ⟨callB_of as'.length C.2.2.2.2.2.1 (z_goodIn hwd) rfl rfl rfl (C.2.2.2.2.2.1 _ (z_word w3)) (C.2.2.2.2.2.1 _ hlk) ⟨w5.1, w5.2, hnp⟩ (z_roomC hwd hRf hRl), C.2.2.2.2.2.1 _ hw2, C.2.2.2.2.2.1 _ hw4⟩ ⟨z_blind, ?_, pre⟩ rfl (by simp) hl.1 rfl (lv_room (by rw [z_cs_tr]; exact hcs)) hd ⟨by omega, by omega⟩)
  have hrv := va_recv hSt.1 hP hcr ((z_ws_at hk).trans (by rw [z_cell_o ht hc]))
  rw [hcy] at hrv
  exact hrv
theorem zs_callS (C : z_Cx p s mt args meth c own cc nL ini rt) (En : z_En sa sv A s s.heap) (hA : ∀ q, s.heap.size ≤ q → A q) (hR : z_Rm R n0 nf) {d : Nat} (hRf : d + 9 ≤ R.frames) (hRl : 60 * d + 460 ≤ R.locals) {ip i k : Nat} {lv : zL} {as r : List Value} {m m' : zM} {v : Option Value} (hwd : z_wdM k = true) (hvk : v = none ∨ (∃ x, v = some (.int x)) ∨ ∃ x, v = some (.long x)) (hM : z_Met l d k as m v m') (hn : z_pc cd (ip + 1) = z_pc cd ip + 3) (hcs : z_cs r ≤ 8) (hd : decode cc (z_pc cd ip) = .ok (.invokestatic i, 3)) (hst : z_stc k = true) (hnp : (parseMethodDescriptor (z_y k).desc).map (fun d => d.parameters.length) = some as.length) (hlk : Cond.methodLink own i (z_y k) ∈ z_tb ∨ Cond.methodLinkNest own i (z_y k) "LongBoats" ∈ z_nw)
    (h : z_G p l e R s mt args below meth c Q D A sa ad0 n0 nf nL (z_pc cd) (ip + 1) lv (v.toList ++ r) m') : z_G p l e R s mt args below meth c Q D A sa ad0 n0 nf nL (z_pc cd) ip lv (as.reverse ++ r) m := by
  refine ⟨Nat.le_trans hM.1 h.1, fun ad ac tys H locs ls hSt hl ho hvv => ?_⟩
  have hor : ∀ v ∈ r, z_okv m.1 v := fun v hv => ho v (List.mem_append_right _ hv)
  have hoa : ∀ v ∈ as, z_okv m.1 v := fun v hv => ho v (List.mem_append_left _ (List.mem_reverse.mpr hv))
  have hwd2 := hwd
  simp only [z_wdM, Bool.and_eq_true, decide_eq_true_eq] at hwd2
  obtain ⟨⟨⟨⟨⟨⟨w1, w2⟩, w3⟩, w4⟩, w5⟩, w6⟩, w7⟩ := hwd2
  obtain ⟨r1, r2, r3, r4⟩ := hR
  have hn0 := hSt.2.2.2.2.2.2.1
  have hle := h.1
  have hmm := hM.1
  have s1 := z_sl_mono hmm
  have s2 := z_sl_mono hn0
  have s3 := z_sl_mono hle
  have e5 : (as.reverse ++ r).map (z_tr ad sa) = (as.map (z_tr ad sa)).reverse ++ r.map (z_tr ad sa) := by
    rw [List.map_append, List.map_reverse]
  rw [e5]
  have hw2 : Cond.static (z_y k) ∈ z_tb := by
    rw [hst] at w2
    exact z_word w2
  have pre := zs_pre C En hA hSt hoa
  rcases hlk with hlk | hlk
  · exact zs_back C hA hvk hmm hn h hSt hl hor hvv (va_runS (cc := cc) (nL := nL) (Ts := z_tb) (own := own) (As := as.map (z_tr ad sa)) (rest := r.map (z_tr ad sa)) (n := as.length) (index := i) ⟨C.1, C.2.1, C.2.2.2.1, C.2.2.2.2.1, C.2.2.2.2.2.1⟩ (hM.2 D sa sv ad ac tys H.size) ⟨callB_of as.length C.2.2.2.2.2.1 (z_goodIn hwd) rfl rfl rfl (C.2.2.2.2.2.1 _ (z_word w3)) (C.2.2.2.2.2.1 _ hlk) ⟨w5.1, w5.2, hnp⟩ (z_roomC hwd hRf hRl), C.2.2.2.2.2.1 _ hw2⟩ ⟨z_blind, pre⟩ rfl (by simp) hl.1 rfl (lv_room (by rw [z_cs_tr]; exact hcs)) hd ⟨by omega, by omega⟩)
  · exact zs_back C hA hvk hmm hn h hSt hl hor hvv (va_runSN (cc := cc) (nL := nL) (Ts := z_tb) (own := own) (host := "LongBoats") (As := as.map (z_tr ad sa)) (rest := r.map (z_tr ad sa)) (n := as.length) (index := i) ⟨C.1, C.2.1, C.2.2.2.1, C.2.2.2.2.1, C.2.2.2.2.2.1⟩ (hM.2 D sa sv ad ac tys H.size) ⟨va_cnB as.length C.2.2.2.2.2.1 (z_goodIn hwd) rfl rfl rfl (En.2.2.2.1 _ hlk) (C.2.2.2.2.2.1 _ (z_word w3)) ⟨w5.1, w5.2, hnp⟩ (z_roomC hwd hRf hRl), C.2.2.2.2.2.1 _ hw2, trivial⟩ ⟨z_blind, pre⟩ rfl (by simp) hl.1 rfl (lv_room (by rw [z_cs_tr]; exact hcs)) hd ⟨by omega, by omega⟩)
theorem zs_callI (C : z_Cx p s mt args meth c own cc nL ini rt) (En : z_En sa sv A s s.heap) (hA : ∀ q, s.heap.size ≤ q → A q) (hR : z_Rm R n0 nf) {d : Nat} (hRf : d + 9 ≤ R.frames) (hRl : 60 * d + 460 ≤ R.locals) {ip i k : Nat} {lv : zL} {as r : List Value} {m m' : zM} {v : Option Value} (hwd : z_wdM k = true) (hvk : v = none ∨ (∃ x, v = some (.int x)) ∨ ∃ x, v = some (.long x)) (hM : z_Met l d k as m v m') (hn : z_pc cd (ip + 1) = z_pc cd ip + 3) (hcs : z_cs r ≤ 8) (hd : decode cc (z_pc cd ip) = .ok (.invokespecial i, 3)) {rc : Nat} {as' : List Value} (has : as = .ref rc :: as') (ht : z_tk rc = 0) (hst : z_stc k = false) (hni : (z_y k).name = "<init>") (hrt : z_rty k = none) (hnp : (parseMethodDescriptor (z_y k).desc).map (fun d => d.parameters.length) = some as'.length) (hlk : Cond.methodLink own i (z_y k) ∈ z_tb ∨ Cond.methodLinkNest own i (z_y k) "LongBoats" ∈ z_nw)
    (h : z_G p l e R s mt args below meth c Q D A sa ad0 n0 nf nL (z_pc cd) (ip + 1) lv (v.toList ++ r) m') : z_G p l e R s mt args below meth c Q D A sa ad0 n0 nf nL (z_pc cd) ip lv (as.reverse ++ r) m := by
  refine ⟨Nat.le_trans hM.1 h.1, fun ad ac tys H locs ls hSt hl ho hvv => ?_⟩
  have hor : ∀ v ∈ r, z_okv m.1 v := fun v hv => ho v (List.mem_append_right _ hv)
  have hoa : ∀ v ∈ as, z_okv m.1 v := fun v hv => ho v (List.mem_append_left _ (List.mem_reverse.mpr hv))
  have hwd2 := hwd
  simp only [z_wdM, Bool.and_eq_true, decide_eq_true_eq] at hwd2
  obtain ⟨⟨⟨⟨⟨⟨w1, w2⟩, w3⟩, w4⟩, w5⟩, w6⟩, w7⟩ := hwd2
  obtain ⟨r1, r2, r3, r4⟩ := hR
  have hn0 := hSt.2.2.2.2.2.2.1
  have hle := h.1
  have hmm := hM.1
  have s1 := z_sl_mono hmm
  have s2 := z_sl_mono hn0
  have s3 := z_sl_mono hle
  have hk : rc < m.1 := z_k_lt (hoa _ (by rw [has]; exact List.mem_cons_self)) (by rw [ht]; decide)
  have e5 : (as.reverse ++ r).map (z_tr ad sa) = (as'.map (z_tr ad sa)).reverse ++ .ref (ad rc) :: r.map (z_tr ad sa) := by
    rw [has, List.reverse_cons, List.append_assoc, List.map_append, List.map_reverse]
    show _ ++ (z_tr ad sa (.ref rc) :: r.map (z_tr ad sa)) = _
    rw [z_tr_ref (Nat.lt_of_lt_of_le hk hSt.2.2.2.2.2.1.2.2)]
  rw [e5]
  have hw2 : Cond.instanceMethod (z_y k) ∈ z_tb := by
    rw [hst] at w2
    exact z_word w2
  have hws : z_ws0 k = .code (z_y k) (z_by k) (z_ml k) none :: z_tb := by rw [z_ws0, hrt]
  have pre := zs_pre C En hA hSt hoa
  have e6 : (as.map (z_tr ad sa)).toArray = (Value.ref (ad rc) :: as'.map (z_tr ad sa)).toArray := by
    rw [has, List.map_cons, z_tr_ref (Nat.lt_of_lt_of_le hk hSt.2.2.2.2.2.1.2.2)]
  rw [e6] at pre
  rcases hlk with hlk | hlk
  · exact zs_back C hA hvk hmm hn h hSt hl hor hvv (va_runI (cc := cc) (nL := nL) (Ts := z_tb) (own := own) (As := as'.map (z_tr ad sa)) (b := ad rc) (rest := r.map (z_tr ad sa)) (n := as'.length) (index := i) ⟨C.1, C.2.1, C.2.2.2.1, C.2.2.2.2.1, C.2.2.2.2.2.1⟩ (hM.2 D sa sv ad ac tys H.size) ⟨callB_of as'.length C.2.2.2.2.2.1 (z_goodIn hwd) hws rfl rfl (C.2.2.2.2.2.1 _ (z_word w3)) (C.2.2.2.2.2.1 _ hlk) ⟨w5.1, w5.2, hnp⟩ (z_roomC hwd hRf hRl), hni, C.2.2.2.2.2.1 _ hw2⟩ ⟨z_blind, pre⟩ rfl (by simp) hl.1 rfl (lv_room (by rw [z_cs_tr]; exact hcs)) hd ⟨by omega, by omega⟩)
  · exact zs_back C hA hvk hmm hn h hSt hl hor hvv (va_runIN (cc := cc) (nL := nL) (Ts := z_tb) (own := own) (host := "LongBoats") (As := as'.map (z_tr ad sa)) (b := ad rc) (rest := r.map (z_tr ad sa)) (n := as'.length) (index := i) ⟨C.1, C.2.1, C.2.2.2.1, C.2.2.2.2.1, C.2.2.2.2.2.1⟩ (hM.2 D sa sv ad ac tys H.size) ⟨va_cnB as'.length C.2.2.2.2.2.1 (z_goodIn hwd) hws rfl rfl (En.2.2.2.1 _ hlk) (C.2.2.2.2.2.1 _ (z_word w3)) ⟨w5.1, w5.2, hnp⟩ (z_roomC hwd hRf hRl), hni, C.2.2.2.2.2.1 _ hw2⟩ ⟨z_blind, pre⟩ rfl (by simp) hl.1 rfl (lv_room (by rw [z_cs_tr]; exact hcs)) hd ⟨by omega, by omega⟩)
end ZS
end
section
/-! String.length() and charAt() of constants: the JDK's own code, walked once -/
def zy_coder : MethodName := ⟨"java/lang/String", "coder", "()B"⟩
abbrev zb_coder : ByteArray := prog_15_method_152_code
def zw_coder : List Cond := .code zy_coder zb_coder 1 (some .byte) :: z_tb
theorem zg_coder : GoodIn z_tb zw_coder := by
  intro w h
  have hm : w ∈ z_tb := by
    rcases List.mem_cons.mp h with rfl | g
    · exact z_word (q := 565) (by decide +kernel)
    · exact g
  exact ⟨hm, good_of_word (List.mem_filter.mp hm).2⟩
def zy_len : MethodName := ⟨"java/lang/String", "length", "()I"⟩
abbrev zb_len : ByteArray := prog_15_method_54_code
def zw_len : List Cond := .code zy_len zb_len 1 (some .int) :: z_tb
theorem zg_len : GoodIn z_tb zw_len := by
  intro w h
  have hm : w ∈ z_tb := by
    rcases List.mem_cons.mp h with rfl | g
    · exact z_word (q := 561) (by decide +kernel)
    · exact g
  exact ⟨hm, good_of_word (List.mem_filter.mp hm).2⟩
def zy_lat : MethodName := ⟨"java/lang/String", "isLatin1", "()Z"⟩
abbrev zb_lat : ByteArray := prog_15_method_154_code
def zw_lat : List Cond := .code zy_lat zb_lat 1 (some .boolean) :: z_tb
theorem zg_lat : GoodIn z_tb zw_lat := by
  intro w h
  have hm : w ∈ z_tb := by
    rcases List.mem_cons.mp h with rfl | g
    · exact z_word (q := 575) (by decide +kernel)
    · exact g
  exact ⟨hm, good_of_word (List.mem_filter.mp hm).2⟩
def zy_pci : MethodName := ⟨"jdk/internal/util/Preconditions", "checkIndex", "(IILjava/util/function/BiFunction;)I"⟩
abbrev zb_pci : ByteArray := prog_18_method_11_code
def zw_pci : List Cond := .code zy_pci zb_pci 3 (some .int) :: z_tb
theorem zg_pci : GoodIn z_tb zw_pci := by
  intro w h
  have hm : w ∈ z_tb := by
    rcases List.mem_cons.mp h with rfl | g
    · exact z_word (q := 586) (by decide +kernel)
    · exact g
  exact ⟨hm, good_of_word (List.mem_filter.mp hm).2⟩
def zy_sci : MethodName := ⟨"java/lang/String", "checkIndex", "(II)V"⟩
abbrev zb_sci : ByteArray := prog_15_method_155_code
def zw_sci : List Cond := .code zy_sci zb_sci 2 (none) :: z_tb
theorem zg_sci : GoodIn z_tb zw_sci := by
  intro w h
  have hm : w ∈ z_tb := by
    rcases List.mem_cons.mp h with rfl | g
    · exact z_word (q := 581) (by decide +kernel)
    · exact g
  exact ⟨hm, good_of_word (List.mem_filter.mp hm).2⟩
def zy_lch : MethodName := ⟨"java/lang/StringLatin1", "charAt", "([BI)C"⟩
abbrev zb_lch : ByteArray := prog_16_method_2_code
def zw_lch : List Cond := .code zy_lch zb_lch 2 (some .char) :: z_tb
theorem zg_lch : GoodIn z_tb zw_lch := by
  intro w h
  have hm : w ∈ z_tb := by
    rcases List.mem_cons.mp h with rfl | g
    · exact z_word (q := 578) (by decide +kernel)
    · exact g
  exact ⟨hm, good_of_word (List.mem_filter.mp hm).2⟩
def zy_cha : MethodName := ⟨"java/lang/String", "charAt", "(I)C"⟩
abbrev zb_cha : ByteArray := prog_15_method_56_code
def zw_cha : List Cond := .code zy_cha zb_cha 2 (some .char) :: z_tb
theorem zg_cha : GoodIn z_tb zw_cha := by
  intro w h
  have hm : w ∈ z_tb := by
    rcases List.mem_cons.mp h with rfl | g
    · exact z_word (q := 571) (by decide +kernel)
    · exact g
  exact ⟨hm, good_of_word (List.mem_filter.mp hm).2⟩
theorem zx_coder_i : Cond.instanceMethod zy_coder ∈ z_tb := z_word (q := 563) (by decide +kernel)
theorem zx_coder_sel : Cond.selects "java/lang/String" zy_coder zy_coder ∈ z_tb := z_word (q := 564) (by decide +kernel)
theorem zx_len_i : Cond.instanceMethod zy_len ∈ z_tb := z_word (q := 559) (by decide +kernel)
theorem zx_len_sel : Cond.selects "java/lang/String" zy_len zy_len ∈ z_tb := z_word (q := 560) (by decide +kernel)
theorem zx_lat_i : Cond.instanceMethod zy_lat ∈ z_tb := z_word (q := 573) (by decide +kernel)
theorem zx_lat_sel : Cond.selects "java/lang/String" zy_lat zy_lat ∈ z_tb := z_word (q := 574) (by decide +kernel)
theorem zx_pci_s : Cond.static zy_pci ∈ z_tb := z_word (q := 585) (by decide +kernel)
theorem zx_sci_s : Cond.static zy_sci ∈ z_tb := z_word (q := 580) (by decide +kernel)
theorem zx_lch_s : Cond.static zy_lch ∈ z_tb := z_word (q := 577) (by decide +kernel)
theorem zx_cha_i : Cond.instanceMethod zy_cha ∈ z_tb := z_word (q := 569) (by decide +kernel)
theorem zx_cha_sel : Cond.selects "java/lang/String" zy_cha zy_cha ∈ z_tb := z_word (q := 570) (by decide +kernel)
theorem zx_iS : Cond.initialized "java/lang/String" ∈ z_tb := z_word (q := 118) (by decide +kernel)
theorem zx_iL : Cond.initialized "java/lang/StringLatin1" ∈ z_tb := z_word (q := 119) (by decide +kernel)
theorem zx_iP : Cond.initialized "jdk/internal/util/Preconditions" ∈ z_tb := z_word (q := 120) (by decide +kernel)
theorem zx_f38 : Cond.fieldLink "java/lang/String" 38 "java/lang/String" "COMPACT_STRINGS" "Z" ∈ z_tb := z_word (q := 566) (by decide +kernel)
theorem zx_f15 : Cond.fieldLink "java/lang/String" 15 "java/lang/String" "coder" "B" ∈ z_tb := z_word (q := 2094) (by decide +kernel)
theorem zx_f9 : Cond.fieldLink "java/lang/String" 9 "java/lang/String" "value" "[B" ∈ z_tb := z_word (q := 2093) (by decide +kernel)
theorem zx_f1053 : Cond.fieldLink "java/lang/String" 1053 "jdk/internal/util/Preconditions" "SIOOBE_FORMATTER" "Ljava/util/function/BiFunction;" ∈ z_tb := z_word (q := 582) (by decide +kernel)
theorem zx_m335 : Cond.methodLink "java/lang/String" 335 zy_coder ∈ z_tb := z_word (q := 562) (by decide +kernel)
theorem zx_m492 : Cond.methodLink "java/lang/String" 492 zy_lat ∈ z_tb := z_word (q := 572) (by decide +kernel)
theorem zx_m495 : Cond.methodLink "java/lang/String" 495 zy_lch ∈ z_tb := z_word (q := 576) (by decide +kernel)
theorem zx_m9 : Cond.methodLink "java/lang/StringLatin1" 9 zy_sci ∈ z_tb := z_word (q := 579) (by decide +kernel)
theorem zx_m1059 : Cond.methodLink "java/lang/String" 1059 zy_pci ∈ z_tb := z_word (q := 584) (by decide +kernel)
theorem zd_coder_0 : decode zb_coder 0 = .ok (.getstatic 38, 3) := by decide +kernel
theorem zd_coder_3 : decode zb_coder 3 = .ok (.ifCond .eq 10, 3) := by decide +kernel
theorem zd_coder_6 : decode zb_coder 6 = .ok (.aload_n 0, 1) := by decide +kernel
theorem zd_coder_7 : decode zb_coder 7 = .ok (.getfield 15, 3) := by decide +kernel
theorem zd_coder_10 : decode zb_coder 10 = .ok (.goto 4, 3) := by decide +kernel
theorem zd_coder_14 : decode zb_coder 14 = .ok (.ireturn, 1) := by decide +kernel
theorem zd_len_0 : decode zb_len 0 = .ok (.aload_n 0, 1) := by decide +kernel
theorem zd_len_1 : decode zb_len 1 = .ok (.getfield 9, 3) := by decide +kernel
theorem zd_len_4 : decode zb_len 4 = .ok (.arraylength, 1) := by decide +kernel
theorem zd_len_5 : decode zb_len 5 = .ok (.aload_n 0, 1) := by decide +kernel
theorem zd_len_6 : decode zb_len 6 = .ok (.invokevirtual 335, 3) := by decide +kernel
theorem zd_len_9 : decode zb_len 9 = .ok (.ishr, 1) := by decide +kernel
theorem zd_len_10 : decode zb_len 10 = .ok (.ireturn, 1) := by decide +kernel
theorem zd_lat_0 : decode zb_lat 0 = .ok (.getstatic 38, 3) := by decide +kernel
theorem zd_lat_3 : decode zb_lat 3 = .ok (.ifCond .eq 14, 3) := by decide +kernel
theorem zd_lat_6 : decode zb_lat 6 = .ok (.aload_n 0, 1) := by decide +kernel
theorem zd_lat_7 : decode zb_lat 7 = .ok (.getfield 15, 3) := by decide +kernel
theorem zd_lat_10 : decode zb_lat 10 = .ok (.ifCond .ne 7, 3) := by decide +kernel
theorem zd_lat_13 : decode zb_lat 13 = .ok (.iconst 1, 1) := by decide +kernel
theorem zd_lat_14 : decode zb_lat 14 = .ok (.goto 4, 3) := by decide +kernel
theorem zd_lat_18 : decode zb_lat 18 = .ok (.ireturn, 1) := by decide +kernel
theorem zd_pci_0 : decode zb_pci 0 = .ok (.iload_n 0, 1) := by decide +kernel
theorem zd_pci_1 : decode zb_pci 1 = .ok (.ifCond .lt 8, 3) := by decide +kernel
theorem zd_pci_4 : decode zb_pci 4 = .ok (.iload_n 0, 1) := by decide +kernel
theorem zd_pci_5 : decode zb_pci 5 = .ok (.iload_n 1, 1) := by decide +kernel
theorem zd_pci_6 : decode zb_pci 6 = .ok (.if_icmp .lt 10, 3) := by decide +kernel
theorem zd_pci_16 : decode zb_pci 16 = .ok (.iload_n 0, 1) := by decide +kernel
theorem zd_pci_17 : decode zb_pci 17 = .ok (.ireturn, 1) := by decide +kernel
theorem zd_sci_0 : decode zb_sci 0 = .ok (.iload_n 0, 1) := by decide +kernel
theorem zd_sci_1 : decode zb_sci 1 = .ok (.iload_n 1, 1) := by decide +kernel
theorem zd_sci_2 : decode zb_sci 2 = .ok (.getstatic 1053, 3) := by decide +kernel
theorem zd_sci_5 : decode zb_sci 5 = .ok (.invokestatic 1059, 3) := by decide +kernel
theorem zd_sci_8 : decode zb_sci 8 = .ok (.pop, 1) := by decide +kernel
theorem zd_sci_9 : decode zb_sci 9 = .ok (.return_, 1) := by decide +kernel
theorem zd_lch_0 : decode zb_lch 0 = .ok (.iload_n 1, 1) := by decide +kernel
theorem zd_lch_1 : decode zb_lch 1 = .ok (.aload_n 0, 1) := by decide +kernel
theorem zd_lch_2 : decode zb_lch 2 = .ok (.arraylength, 1) := by decide +kernel
theorem zd_lch_3 : decode zb_lch 3 = .ok (.invokestatic 9, 3) := by decide +kernel
theorem zd_lch_6 : decode zb_lch 6 = .ok (.aload_n 0, 1) := by decide +kernel
theorem zd_lch_7 : decode zb_lch 7 = .ok (.iload_n 1, 1) := by decide +kernel
theorem zd_lch_8 : decode zb_lch 8 = .ok (.baload, 1) := by decide +kernel
theorem zd_lch_9 : decode zb_lch 9 = .ok (.sipush 255, 3) := by decide +kernel
theorem zd_lch_12 : decode zb_lch 12 = .ok (.iand, 1) := by decide +kernel
theorem zd_lch_13 : decode zb_lch 13 = .ok (.i2c, 1) := by decide +kernel
theorem zd_lch_14 : decode zb_lch 14 = .ok (.ireturn, 1) := by decide +kernel
theorem zd_cha_0 : decode zb_cha 0 = .ok (.aload_n 0, 1) := by decide +kernel
theorem zd_cha_1 : decode zb_cha 1 = .ok (.invokevirtual 492, 3) := by decide +kernel
theorem zd_cha_4 : decode zb_cha 4 = .ok (.ifCond .eq 12, 3) := by decide +kernel
theorem zd_cha_7 : decode zb_cha 7 = .ok (.aload_n 0, 1) := by decide +kernel
theorem zd_cha_8 : decode zb_cha 8 = .ok (.getfield 9, 3) := by decide +kernel
theorem zd_cha_11 : decode zb_cha 11 = .ok (.iload_n 1, 1) := by decide +kernel
theorem zd_cha_12 : decode zb_cha 12 = .ok (.invokestatic 495, 3) := by decide +kernel
theorem zd_cha_15 : decode zb_cha 15 = .ok (.ireturn, 1) := by decide +kernel
def z_r1 (n : Nat) : Room := { frames := n, cells := 0, slots := 0, locals := 40 * n }
def z_No (_ : Nat) : Prop := False
def z_sF (a t : Nat) (tx : List Int32) (U : State) : Prop := va_O "java/lang/String" a z_No U U.heap ∧ va_OF "java/lang/String" "coder" "B" (.int 0) a z_No U U.heap ∧ va_OF "java/lang/String" "value" "[B" (.ref t) a z_No U U.heap ∧ va_T .byte t tx.length (fun j => .int (tx.getD j 0)) z_No U U.heap ∧ va_Z "java/lang/String" "COMPACT_STRINGS" "Z" (.int 1) z_No U U.heap ∧ va_Zq "jdk/internal/util/Preconditions" "SIOOBE_FORMATTER" "Ljava/util/function/BiFunction;" z_No U U.heap
theorem z_sF_al {a t : Nat} {tx : List Int32} {u U : State} (hvm : u.vm.Alike U.vm) (hh : U.heap = u.heap) (h : z_sF a t tx u) : z_sF a t tx U := by
  obtain ⟨h1, h2, h3, h4, h5, h6⟩ := h
  rw [← hh] at h1 h2 h3 h4 h5 h6
  exact ⟨h1.moved hvm, h2.moved hvm, h3.moved hvm, h4.moved hvm, h5.moved hvm, h6.moved hvm⟩
theorem z_sFb {av : List Value} {a t : Nat} {tx : List Int32} : FrameBlind (va_Pc av (z_sF a t tx)) := fun x U g mk q => ⟨q.1, z_sF_al (u := U) (Vm.Alike.refl U.vm) rfl q.2⟩
theorem z_trb {av : List Value} : FrameBlind (va_Pc av (fun _ => True)) := fun x U g mk q => ⟨q.1, trivial⟩
theorem z_callSv {p : Program} {l : Launch} {e : Env} {R : Room} {s : State} {m : MethodId} {args : Array Value} {below : List Frame} {meth : Method} {c : Code} {H : Heap} {locs : List Loc} {cells slots : Nat} {Q : State → Prop} {pc : Nat} {ls : Array Slot} {rest : List Value} {a : Array Value} {st0 : List Value} {post : Unit → Prop} (hr : CallRun p l e R s m args below meth c H locs cells slots 0 0 (F0 m pc ls st0) rest (va_Sv post a) z_No)
    (kk : W p l e R s m args below meth c H locs cells slots Q (F0 m (pc + 3) ls rest)) : W p l e R s m args below meth c H locs cells slots Q (F0 m pc ls st0) := by
  intro T hT X
  obtain ⟨v, st₀, t, T', L, h0, X', hL, e1, ⟨hv, hp, hh⟩, st⟩ := hr T hT X
  cases hv
  obtain ⟨t2, a1, b1⟩ := kk T' (by rw [e1, hh, h0]) (Stand.forget X' (fun q h => (hL q h).elim))
  exact ⟨t2, st t2 a1, b1⟩
theorem zc_coder (l : Launch) (a t : Nat) (tx : List Int32) : Met l zy_coder zw_coder (z_r1 1) (va_Pc [.ref a] (z_sF a t tx)) (vp_Si (fun r => r = 0)) 0 0 z_No := by
  refine Met.ofW (cc := zb_coder) (maxL := 1) (ret := (some .byte)) (by decide) rfl ?_
  intro p e s m args below meth c s₁ B hml hv
  obtain ⟨rfl, hF⟩ := hv
  have hx := B.exec
  have hb := B.bytes
  have hr := B.returns
  have hts0 := atoms_spec (ws := zw_coder) B.pre
  have hts : ∀ w ∈ z_tb, w.before [.ref a].toArray s = true := fun w h => hts0 w (List.mem_cons_of_mem _ h)
  have hown : s.vm.findClass "java/lang/String" = some m.cls := findClass_of_methodNamed B.named
  have hlocks := B.notSynchronized
  have hS : va_S z_No s.heap s.heap [] := va_S.rf
  have hl := lv_entry ([.ref a]) (n := 1) (Nat.le_of_ble_eq_true rfl)
  rw [lg_entry_eq]
  generalize (lg_sl ([.ref a]) ++ List.replicate (1 - (lg_sl ([.ref a])).length) Slot.unset).toArray = ls at hl ⊢
  have hl : lv_has ls 1 [(0, .ref a)] := hl
  obtain ⟨f1, f2, f3, f4, f5, f6⟩ := hF
  refine va_gets hx hb f5 hS hown (hts _ zx_f38) (fun _ h => h) zd_coder_0 ?_
  refine lv_if_eq (tgt := 13) hx hb zd_coder_3 (by decide) (fun h => absurd h (by decide)) (fun _ => ?_)
  refine lv_aload_n hx hb zd_coder_6 rfl (lv_at hl 0 rfl) ?_
  refine vk_getf hx hb f2 hS hown (hts _ zx_f15) (fun _ h => h) zd_coder_7 ?_
  refine lv_goto (tgt := 14) hx hb zd_coder_10 (by decide) ?_
  exact W.zret hx hb hr rfl (fun t ht hW => ⟨0, rfl, rfl, ht⟩) (fun q h => absurd h List.not_mem_nil) zd_coder_14
theorem zc_lat (l : Launch) (a t : Nat) (tx : List Int32) : Met l zy_lat zw_lat (z_r1 1) (va_Pc [.ref a] (z_sF a t tx)) (vp_Si (fun r => r = 1)) 0 0 z_No := by
  refine Met.ofW (cc := zb_lat) (maxL := 1) (ret := (some .boolean)) (by decide) rfl ?_
  intro p e s m args below meth c s₁ B hml hv
  obtain ⟨rfl, hF⟩ := hv
  have hx := B.exec
  have hb := B.bytes
  have hr := B.returns
  have hts0 := atoms_spec (ws := zw_lat) B.pre
  have hts : ∀ w ∈ z_tb, w.before [.ref a].toArray s = true := fun w h => hts0 w (List.mem_cons_of_mem _ h)
  have hown : s.vm.findClass "java/lang/String" = some m.cls := findClass_of_methodNamed B.named
  have hlocks := B.notSynchronized
  have hS : va_S z_No s.heap s.heap [] := va_S.rf
  have hl := lv_entry ([.ref a]) (n := 1) (Nat.le_of_ble_eq_true rfl)
  rw [lg_entry_eq]
  generalize (lg_sl ([.ref a]) ++ List.replicate (1 - (lg_sl ([.ref a])).length) Slot.unset).toArray = ls at hl ⊢
  have hl : lv_has ls 1 [(0, .ref a)] := hl
  obtain ⟨f1, f2, f3, f4, f5, f6⟩ := hF
  refine va_gets hx hb f5 hS hown (hts _ zx_f38) (fun _ h => h) zd_lat_0 ?_
  refine lv_if_eq (tgt := 17) hx hb zd_lat_3 (by decide) (fun h => absurd h (by decide)) (fun _ => ?_)
  refine lv_aload_n hx hb zd_lat_6 rfl (lv_at hl 0 rfl) ?_
  refine vk_getf hx hb f2 hS hown (hts _ zx_f15) (fun _ h => h) zd_lat_7 ?_
  refine lv_if_ne (tgt := 17) hx hb zd_lat_10 (by decide) (fun h => absurd rfl h) (fun _ => ?_)
  refine lv_iconst (v := 1) hx hb zd_lat_13 (by decide) ?_
  refine lv_goto (tgt := 18) hx hb zd_lat_14 (by decide) ?_
  exact W.zret hx hb hr rfl (fun t ht hW => ⟨1, rfl, rfl, ht⟩) (fun q h => absurd h List.not_mem_nil) zd_lat_18
theorem zc_len (l : Launch) (a t : Nat) (tx : List Int32) : Met l zy_len zw_len (z_r1 2) (va_Pc [.ref a] (z_sF a t tx)) (vp_Si (fun r => r = Int32.ofNat tx.length)) 0 0 z_No := by
  refine Met.ofW (cc := zb_len) (maxL := 1) (ret := (some .int)) (by decide) rfl ?_
  intro p e s m args below meth c s₁ B hml hv
  obtain ⟨rfl, hF⟩ := hv
  have hx := B.exec
  have hb := B.bytes
  have hr := B.returns
  have hts0 := atoms_spec (ws := zw_len) B.pre
  have hts : ∀ w ∈ z_tb, w.before [.ref a].toArray s = true := fun w h => hts0 w (List.mem_cons_of_mem _ h)
  have hown : s.vm.findClass "java/lang/String" = some m.cls := findClass_of_methodNamed B.named
  have hlocks := B.notSynchronized
  have hS : va_S z_No s.heap s.heap [] := va_S.rf
  have hl := lv_entry ([.ref a]) (n := 1) (Nat.le_of_ble_eq_true rfl)
  rw [lg_entry_eq]
  generalize (lg_sl ([.ref a]) ++ List.replicate (1 - (lg_sl ([.ref a])).length) Slot.unset).toArray = ls at hl ⊢
  have hl : lv_has ls 1 [(0, .ref a)] := hl
  obtain ⟨f1, f2, f3, f4, f5, f6⟩ := id hF
  refine lv_aload_n hx hb zd_len_0 rfl (lv_at hl 0 rfl) ?_
  refine vk_getf hx hb f3 hS hown (hts _ zx_f9) (fun _ h => h) zd_len_1 ?_
  refine va_tlen hx hb f4 hS rfl zd_len_4 ?_
  refine lv_aload_n hx hb zd_len_5 rfl (lv_at hl 0 rfl) ?_
  refine vp_callSi (W.runV (cc := zb_len) (nL := 1) (Ts := z_tb) (own := "java/lang/String") (C := "java/lang/String") (As := []) (b := a) (rest := [.int (Int32.ofNat tx.length)]) (n := 0) (index := 335) ⟨hx, hb, hml, hown, hts⟩ (zc_coder l a t tx) ⟨callB_of 0 hts zg_coder rfl rfl rfl (hts _ zx_iS) (hts _ zx_m335) (by decide +kernel) ⟨Nat.le_of_ble_eq_true rfl, Nat.le_of_ble_eq_true rfl⟩, hts _ zx_coder_i, hts _ zx_coder_sel⟩ ⟨z_sFb, (by
    obtain ⟨cell, q1, q2, q3, -⟩ := f1
    exact ⟨cell, q1, q2, q3⟩), fun U hU hW => ⟨rfl, z_sF_al hW.alike hU hF⟩⟩ rfl rfl hl.1 rfl (lv_room (Nat.le_of_ble_eq_true rfl)) zd_len_6 ⟨Nat.zero_le _, Nat.zero_le _⟩) (fun r hr9 => ?_)
  subst hr9
  refine lv_ishr hx hb zd_len_9 ?_
  have e0 : Int32.ofNat tx.length >>> ((0 : Int32) &&& 31) = Int32.ofNat tx.length := by
    rw [show ((0 : Int32) &&& 31) = 0 by decide]
    exact Int32.shiftRight_zero
  rw [e0]
  exact W.zret hx hb hr rfl (fun t ht hW => ⟨_, rfl, rfl, ht⟩) (fun q h => absurd h List.not_mem_nil) zd_len_10
theorem zc_pciN (l : Launch) (i n : Int32) (h0 : ¬ i < 0) (h1 : i < n) : Met l zy_pci zw_pci (z_r1 1) (va_Pc [.int i, .int n, .null] (fun _ => True)) (vp_Si (fun r => r = i)) 0 0 z_No := by
  refine Met.ofW (cc := zb_pci) (maxL := 3) (ret := (some .int)) (by decide) rfl ?_
  intro p e s m args below meth c s₁ B hml hv
  obtain ⟨rfl, hF⟩ := hv
  have hx := B.exec
  have hb := B.bytes
  have hr := B.returns
  have hts0 := atoms_spec (ws := zw_pci) B.pre
  have hts : ∀ w ∈ z_tb, w.before [.int i, .int n, .null].toArray s = true := fun w h => hts0 w (List.mem_cons_of_mem _ h)
  have hown : s.vm.findClass "jdk/internal/util/Preconditions" = some m.cls := findClass_of_methodNamed B.named
  have hlocks := B.notSynchronized
  have hS : va_S z_No s.heap s.heap [] := va_S.rf
  have hl := lv_entry ([.int i, .int n, .null]) (n := 3) (Nat.le_of_ble_eq_true rfl)
  rw [lg_entry_eq]
  generalize (lg_sl ([.int i, .int n, .null]) ++ List.replicate (3 - (lg_sl ([.int i, .int n, .null])).length) Slot.unset).toArray = ls at hl ⊢
  have hl : lv_has ls 3 [(0, .int i), (1, .int n), (2, .null)] := hl
  refine lv_iload_n hx hb zd_pci_0 rfl (lv_at hl 0 rfl) ?_
  refine lv_if_lt (tgt := 9) hx hb zd_pci_1 (by decide) (fun h => absurd h h0) (fun _ => ?_)
  refine lv_iload_n hx hb zd_pci_4 rfl (lv_at hl 0 rfl) ?_
  refine lv_iload_n hx hb zd_pci_5 rfl (lv_at hl 1 rfl) ?_
  refine lv_icmp_lt (tgt := 16) hx hb zd_pci_6 (by decide) (fun _ => ?_) (fun h => absurd h1 h)
  refine lv_iload_n hx hb zd_pci_16 rfl (lv_at hl 0 rfl) ?_
  exact W.zret hx hb hr rfl (fun t ht hW => ⟨i, rfl, rfl, ht⟩) (fun q h => absurd h List.not_mem_nil) zd_pci_17
theorem zc_pciR (l : Launch) (i n : Int32) (u : Nat) (h0 : ¬ i < 0) (h1 : i < n) : Met l zy_pci zw_pci (z_r1 1) (va_Pc [.int i, .int n, .ref u] (fun _ => True)) (vp_Si (fun r => r = i)) 0 0 z_No := by
  refine Met.ofW (cc := zb_pci) (maxL := 3) (ret := (some .int)) (by decide) rfl ?_
  intro p e s m args below meth c s₁ B hml hv
  obtain ⟨rfl, hF⟩ := hv
  have hx := B.exec
  have hb := B.bytes
  have hr := B.returns
  have hts0 := atoms_spec (ws := zw_pci) B.pre
  have hts : ∀ w ∈ z_tb, w.before [.int i, .int n, .ref u].toArray s = true := fun w h => hts0 w (List.mem_cons_of_mem _ h)
  have hown : s.vm.findClass "jdk/internal/util/Preconditions" = some m.cls := findClass_of_methodNamed B.named
  have hlocks := B.notSynchronized
  have hS : va_S z_No s.heap s.heap [] := va_S.rf
  have hl := lv_entry ([.int i, .int n, .ref u]) (n := 3) (Nat.le_of_ble_eq_true rfl)
  rw [lg_entry_eq]
  generalize (lg_sl ([.int i, .int n, .ref u]) ++ List.replicate (3 - (lg_sl ([.int i, .int n, .ref u])).length) Slot.unset).toArray = ls at hl ⊢
  have hl : lv_has ls 3 [(0, .int i), (1, .int n), (2, .ref u)] := hl
  refine lv_iload_n hx hb zd_pci_0 rfl (lv_at hl 0 rfl) ?_
  refine lv_if_lt (tgt := 9) hx hb zd_pci_1 (by decide) (fun h => absurd h h0) (fun _ => ?_)
  refine lv_iload_n hx hb zd_pci_4 rfl (lv_at hl 0 rfl) ?_
  refine lv_iload_n hx hb zd_pci_5 rfl (lv_at hl 1 rfl) ?_
  refine lv_icmp_lt (tgt := 16) hx hb zd_pci_6 (by decide) (fun _ => ?_) (fun h => absurd h1 h)
  refine lv_iload_n hx hb zd_pci_16 rfl (lv_at hl 0 rfl) ?_
  exact W.zret hx hb hr rfl (fun t ht hW => ⟨i, rfl, rfl, ht⟩) (fun q h => absurd h List.not_mem_nil) zd_pci_17
theorem zc_sci (l : Launch) (a t : Nat) (tx : List Int32) (i n : Int32) (h0 : ¬ i < 0) (h1 : i < n) : Met l zy_sci zw_sci (z_r1 2) (va_Pc [.int i, .int n] (z_sF a t tx)) (va_Sv (fun _ => True)) 0 0 z_No := by
  refine Met.ofW (cc := zb_sci) (maxL := 2) (ret := none) (by decide) rfl ?_
  intro p e s m args below meth c s₁ B hml hv
  obtain ⟨rfl, hF⟩ := hv
  have hx := B.exec
  have hb := B.bytes
  have hr := B.returns
  have hts0 := atoms_spec (ws := zw_sci) B.pre
  have hts : ∀ w ∈ z_tb, w.before [.int i, .int n].toArray s = true := fun w h => hts0 w (List.mem_cons_of_mem _ h)
  have hown : s.vm.findClass "java/lang/String" = some m.cls := findClass_of_methodNamed B.named
  have hlocks := B.notSynchronized
  have hS : va_S z_No s.heap s.heap [] := va_S.rf
  have hl := lv_entry ([.int i, .int n]) (n := 2) (Nat.le_of_ble_eq_true rfl)
  rw [lg_entry_eq]
  generalize (lg_sl ([.int i, .int n]) ++ List.replicate (2 - (lg_sl ([.int i, .int n])).length) Slot.unset).toArray = ls at hl ⊢
  have hl : lv_has ls 2 [(0, .int i), (1, .int n)] := hl
  obtain ⟨f1, f2, f3, f4, f5, f6⟩ := hF
  refine lv_iload_n hx hb zd_sci_0 rfl (lv_at hl 0 rfl) ?_
  refine lv_iload_n hx hb zd_sci_1 rfl (lv_at hl 1 rfl) ?_
  rcases f6 with f6 | ⟨u, f6⟩
  · refine va_gets hx hb f6 hS hown (hts _ zx_f1053) (fun _ h => h) zd_sci_2 ?_
    refine vp_callSi (W.runS (cc := zb_sci) (nL := 2) (Ts := z_tb) (own := "java/lang/String") (As := [.int i, .int n, .null]) (rest := []) (n := 3) (index := 1059) ⟨hx, hb, hml, hown, hts⟩ (zc_pciN l i n h0 h1) ⟨callB_of 3 hts zg_pci rfl rfl rfl (hts _ zx_iP) (hts _ zx_m1059) (by decide +kernel) ⟨Nat.le_of_ble_eq_true rfl, Nat.le_of_ble_eq_true rfl⟩, hts _ zx_pci_s⟩ ⟨z_trb, fun U hU hW => ⟨rfl, trivial⟩⟩ rfl rfl hl.1 rfl (lv_room (Nat.le_of_ble_eq_true rfl)) zd_sci_5 ⟨Nat.zero_le _, Nat.zero_le _⟩) (fun r hr9 => ?_)
    refine lv_pop hx hb zd_sci_8 rfl ?_
    exact W.vret hx hb hr (fun t ht hW => ⟨rfl, trivial, ht⟩) (fun q h => absurd h List.not_mem_nil) zd_sci_9
  · refine va_gets hx hb f6 hS hown (hts _ zx_f1053) (fun _ h => h) zd_sci_2 ?_
    refine vp_callSi (W.runS (cc := zb_sci) (nL := 2) (Ts := z_tb) (own := "java/lang/String") (As := [.int i, .int n, .ref u]) (rest := []) (n := 3) (index := 1059) ⟨hx, hb, hml, hown, hts⟩ (zc_pciR l i n u h0 h1) ⟨callB_of 3 hts zg_pci rfl rfl rfl (hts _ zx_iP) (hts _ zx_m1059) (by decide +kernel) ⟨Nat.le_of_ble_eq_true rfl, Nat.le_of_ble_eq_true rfl⟩, hts _ zx_pci_s⟩ ⟨z_trb, fun U hU hW => ⟨rfl, trivial⟩⟩ rfl rfl hl.1 rfl (lv_room (Nat.le_of_ble_eq_true rfl)) zd_sci_5 ⟨Nat.zero_le _, Nat.zero_le _⟩) (fun r hr9 => ?_)
    refine lv_pop hx hb zd_sci_8 rfl ?_
    exact W.vret hx hb hr (fun t ht hW => ⟨rfl, trivial, ht⟩) (fun q h => absurd h List.not_mem_nil) zd_sci_9
theorem zc_lch (l : Launch) (a t : Nat) (tx : List Int32) (j : Int32) (hj : ¬ (j < 0 ∨ tx.length ≤ j.toNatClampNeg)) (h31 : tx.length < 2 ^ 31) (hby : (tx.getD j.toNatClampNeg 0) &&& 255 = tx.getD j.toNatClampNeg 0) : Met l zy_lch zw_lch (z_r1 3) (va_Pc [.ref t, .int j] (z_sF a t tx)) (vp_Si (fun r => r = tx.getD j.toNatClampNeg 0)) 0 0 z_No := by
  refine Met.ofW (cc := zb_lch) (maxL := 2) (ret := (some .char)) (by decide) rfl ?_
  intro p e s m args below meth c s₁ B hml hv
  obtain ⟨rfl, hF⟩ := hv
  have hx := B.exec
  have hb := B.bytes
  have hr := B.returns
  have hts0 := atoms_spec (ws := zw_lch) B.pre
  have hts : ∀ w ∈ z_tb, w.before [.ref t, .int j].toArray s = true := fun w h => hts0 w (List.mem_cons_of_mem _ h)
  have hown : s.vm.findClass "java/lang/StringLatin1" = some m.cls := findClass_of_methodNamed B.named
  have hlocks := B.notSynchronized
  have hS : va_S z_No s.heap s.heap [] := va_S.rf
  have hl := lv_entry ([.ref t, .int j]) (n := 2) (Nat.le_of_ble_eq_true rfl)
  rw [lg_entry_eq]
  generalize (lg_sl ([.ref t, .int j]) ++ List.replicate (2 - (lg_sl ([.ref t, .int j])).length) Slot.unset).toArray = ls at hl ⊢
  have hl : lv_has ls 2 [(0, .ref t), (1, .int j)] := hl
  obtain ⟨f1, f2, f3, f4, f5, f6⟩ := id hF
  have hin : vp_in j tx.length := hj
  have h0 : ¬ j < 0 := fun h => hj (Or.inl h)
  have h1 : j < Int32.ofNat tx.length := by
    obtain ⟨q, hq, rfl⟩ := vp_in_of hin h31
    exact nI_lt hq h31
  refine lv_iload_n hx hb zd_lch_0 rfl (lv_at hl 1 rfl) ?_
  refine lv_aload_n hx hb zd_lch_1 rfl (lv_at hl 0 rfl) ?_
  refine va_tlen hx hb f4 hS rfl zd_lch_2 ?_
  refine z_callSv (W.runS (cc := zb_lch) (nL := 2) (Ts := z_tb) (own := "java/lang/StringLatin1") (As := [.int j, .int (Int32.ofNat tx.length)]) (rest := []) (n := 2) (index := 9) ⟨hx, hb, hml, hown, hts⟩ (zc_sci l a t tx j (Int32.ofNat tx.length) h0 h1) ⟨callB_of 2 hts zg_sci rfl rfl rfl (hts _ zx_iS) (hts _ zx_m9) (by decide +kernel) ⟨Nat.le_of_ble_eq_true rfl, Nat.le_of_ble_eq_true rfl⟩, hts _ zx_sci_s⟩ ⟨z_sFb, fun U hU hW => ⟨rfl, z_sF_al hW.alike hU hF⟩⟩ rfl rfl hl.1 rfl (lv_room (Nat.le_of_ble_eq_true rfl)) zd_lch_3 ⟨Nat.zero_le _, Nat.zero_le _⟩) ?_
  refine lv_aload_n hx hb zd_lch_6 rfl (lv_at hl 0 rfl) ?_
  refine lv_iload_n hx hb zd_lch_7 rfl (lv_at hl 1 rfl) ?_
  refine va_tb hx hb f4 hS hin rfl zd_lch_8 ?_
  refine lv_sipush (v := 255) hx hb zd_lch_9 (by decide) ?_
  refine lv_iand hx hb zd_lch_12 ?_
  refine lv_i2c hx hb zd_lch_13 (sc_c2 _) ?_
  rw [hby]
  exact W.zret hx hb hr (by rw [← hby]; exact sc_nar _) (fun t ht hW => ⟨_, rfl, rfl, ht⟩) (fun q h => absurd h List.not_mem_nil) zd_lch_14
theorem zc_cha (l : Launch) (a t : Nat) (tx : List Int32) (j : Int32) (hj : ¬ (j < 0 ∨ tx.length ≤ j.toNatClampNeg)) (h31 : tx.length < 2 ^ 31) (hby : (tx.getD j.toNatClampNeg 0) &&& 255 = tx.getD j.toNatClampNeg 0) : Met l zy_cha zw_cha (z_r1 4) (va_Pc [.ref a, .int j] (z_sF a t tx)) (vp_Si (fun r => r = tx.getD j.toNatClampNeg 0)) 0 0 z_No := by
  refine Met.ofW (cc := zb_cha) (maxL := 2) (ret := (some .char)) (by decide) rfl ?_
  intro p e s m args below meth c s₁ B hml hv
  obtain ⟨rfl, hF⟩ := hv
  have hx := B.exec
  have hb := B.bytes
  have hr := B.returns
  have hts0 := atoms_spec (ws := zw_cha) B.pre
  have hts : ∀ w ∈ z_tb, w.before [.ref a, .int j].toArray s = true := fun w h => hts0 w (List.mem_cons_of_mem _ h)
  have hown : s.vm.findClass "java/lang/String" = some m.cls := findClass_of_methodNamed B.named
  have hlocks := B.notSynchronized
  have hS : va_S z_No s.heap s.heap [] := va_S.rf
  have hl := lv_entry ([.ref a, .int j]) (n := 2) (Nat.le_of_ble_eq_true rfl)
  rw [lg_entry_eq]
  generalize (lg_sl ([.ref a, .int j]) ++ List.replicate (2 - (lg_sl ([.ref a, .int j])).length) Slot.unset).toArray = ls at hl ⊢
  have hl : lv_has ls 2 [(0, .ref a), (1, .int j)] := hl
  obtain ⟨f1, f2, f3, f4, f5, f6⟩ := id hF
  refine lv_aload_n hx hb zd_cha_0 rfl (lv_at hl 0 rfl) ?_
  refine vp_callSi (W.runV (cc := zb_cha) (nL := 2) (Ts := z_tb) (own := "java/lang/String") (C := "java/lang/String") (As := []) (b := a) (rest := []) (n := 0) (index := 492) ⟨hx, hb, hml, hown, hts⟩ (zc_lat l a t tx) ⟨callB_of 0 hts zg_lat rfl rfl rfl (hts _ zx_iS) (hts _ zx_m492) (by decide +kernel) ⟨Nat.le_of_ble_eq_true rfl, Nat.le_of_ble_eq_true rfl⟩, hts _ zx_lat_i, hts _ zx_lat_sel⟩ ⟨z_sFb, (by
    obtain ⟨cell, q1, q2, q3, -⟩ := f1
    exact ⟨cell, q1, q2, q3⟩), fun U hU hW => ⟨rfl, z_sF_al hW.alike hU hF⟩⟩ rfl rfl hl.1 rfl (lv_room (Nat.le_of_ble_eq_true rfl)) zd_cha_1 ⟨Nat.zero_le _, Nat.zero_le _⟩) (fun r hr9 => ?_)
  subst hr9
  refine lv_if_eq (tgt := 16) hx hb zd_cha_4 (by decide) (fun h => absurd h (by decide)) (fun _ => ?_)
  refine lv_aload_n hx hb zd_cha_7 rfl (lv_at hl 0 rfl) ?_
  refine vk_getf hx hb f3 hS hown (hts _ zx_f9) (fun _ h => h) zd_cha_8 ?_
  refine lv_iload_n hx hb zd_cha_11 rfl (lv_at hl 1 rfl) ?_
  refine vp_callSi (W.runS (cc := zb_cha) (nL := 2) (Ts := z_tb) (own := "java/lang/String") (As := [.ref t, .int j]) (rest := []) (n := 2) (index := 495) ⟨hx, hb, hml, hown, hts⟩ (zc_lch l a t tx j hj h31 hby) ⟨callB_of 2 hts zg_lch rfl rfl rfl (hts _ zx_iL) (hts _ zx_m495) (by decide +kernel) ⟨Nat.le_of_ble_eq_true rfl, Nat.le_of_ble_eq_true rfl⟩, hts _ zx_lch_s⟩ ⟨z_sFb, fun U hU hW => ⟨rfl, z_sF_al hW.alike hU hF⟩⟩ rfl rfl hl.1 rfl (lv_room (Nat.le_of_ble_eq_true rfl)) zd_cha_12 ⟨Nat.zero_le _, Nat.zero_le _⟩) (fun r hr9 => ?_)
  subst hr9
  exact W.zret hx hb hr (by rw [← hby]; exact sc_nar _) (fun t ht hW => ⟨_, rfl, rfl, ht⟩) (fun q h => absurd h List.not_mem_nil) zd_cha_15
theorem z_tx_ok : ∀ k : Nat, (z_tx k).length < 100 ∧ ∀ j : Nat, ((z_tx k).getD j 0) &&& 255 = (z_tx k).getD j 0 := by
  have h : ∀ l ∈ z_txs, l.length < 100 ∧ ∀ x ∈ l, x &&& 255 = x := by decide +kernel
  intro k
  rcases Nat.lt_or_ge k z_txs.length with g | g
  · have e : z_tx k = z_txs[k] := by simp [z_tx, g]
    rw [e]
    have h1 := h _ (List.getElem_mem g)
    refine ⟨h1.1, fun j => ?_⟩
    rcases Nat.lt_or_ge j z_txs[k].length with g2 | g2
    · rw [List.getD_eq_getElem?_getD, List.getElem?_eq_getElem g2]
      exact h1.2 _ (List.getElem_mem g2)
    · rw [List.getD_eq_getElem?_getD, List.getElem?_eq_none g2]
      rfl
  · have e : z_tx k = [] := by simp [z_tx, g]
    rw [e]
    exact ⟨by decide, fun j => by rw [List.getD_nil]; rfl⟩
section ZS
variable {p : Program} {l : Launch} {e : Env} {R : Room} {s : State} {mt : MethodId} {args : Array Value} {below : List Frame} {meth : Method} {c : Code} {Q : State → Prop} {D : va_G} {A : Nat → Prop} {sa sv ad0 : Nat → Nat} {n0 nf nL : Nat} {cd : List zI} {own : String} {cc : ByteArray} {ini : Bool} {rt : Option FieldType}

theorem zs_strlen (C : z_Cx p s mt args meth c own cc nL ini rt) (En : z_En sa sv A s s.heap) (hA : ∀ q, s.heap.size ≤ q → A q) (hR : z_Rm R n0 nf) {ip i k : Nat} {lv : zL} {r : List Value} {m : zM} (hcs : z_cs r ≤ 8) (hd : decode cc (z_pc cd ip) = .ok (.invokevirtual i, 3)) (hn : z_pc cd (ip + 1) = z_pc cd ip + 3) (hk : z_sb < k) (hlk : Cond.methodLink own i ⟨"java/lang/String", "length", "()I"⟩ ∈ z_tb) (h : z_G p l e R s mt args below meth c Q D A sa ad0 n0 nf nL (z_pc cd) (ip + 1) lv (.int (Int32.ofNat (z_tx (k - z_sb)).length) :: r) m) : z_G p l e R s mt args below meth c Q D A sa ad0 n0 nf nL (z_pc cd) ip lv (.ref k :: r) m := by
  refine ⟨h.1, fun ad ac tys H locs ls hSt hl ho hvv => ?_⟩
  have hk2 : k < z_sb + 43 := by
    have := ho (.ref k) List.mem_cons_self
    rcases this with g | g
    · have h3 := hSt.2.2.2.2.2.1.2.2
      have h4 : z_sb = 1000000 := rfl
      have g2 : k < m.1 := g
      omega
    · exact g.2
  have h2 := h.2 ad ac tys H locs ls hSt hl (fun v hv => by
    rcases List.mem_cons.mp hv with rfl | g
    · simp [z_okv]
    · exact ho v (List.mem_cons_of_mem _ g)) hvv
  rw [hn] at h2
  have hS := hSt.2.2.2.1
  have hs0 : 0 < k - z_sb := by omega
  have hs1 : k - z_sb < 43 := by omega
  obtain ⟨e1, e2, e3, e4, e5⟩ := En.2.1 (k - z_sb) hs0 hs1
  have hno : ∀ q, z_No q → A q := fun q h9 => h9.elim
  have e9 : z_tr ad sa (.ref k) = .ref (sa (k - z_sb)) := by
    simp only [z_tr]
    rw [if_neg (Nat.not_lt.mpr (Nat.le_of_lt hk))]
  have hsF : ∀ U : State, U.heap = H → s.WarmedH U.vm → z_sF (sa (k - z_sb)) (sv (k - z_sb)) (z_tx (k - z_sb)) U := by
    intro U hU hW
    have ha := hW.alike
    simp only [z_sF]
    rw [hU]
    exact ⟨((e2.kept hS.2.1).moved ha).narrow hno, ((e3.kept hS.2.1).moved ha).narrow hno, ((e4.kept hS.2.1).moved ha).narrow hno, ((e5.kept hS.2.1).moved ha).narrow hno, ((En.2.2.1.kept hS.2.1).moved ha).narrow hno, ((En.2.2.2.2.kept hS.2.1).moved ha).narrow hno⟩
  obtain ⟨r1, r2, r3, r4⟩ := hR
  have hle := h.1
  have hn0 := hSt.2.2.2.2.2.2.1
  have hsl := z_sl_mono hle
  show W p l e R s mt args below meth c H locs _ _ Q (F0 mt _ ls (z_tr ad sa (.ref k) :: r.map (z_tr ad sa)))
  rw [e9]
  refine vp_callSi (W.runV (cc := cc) (nL := nL) (Ts := z_tb) (own := own) (C := "java/lang/String") (As := []) (b := sa (k - z_sb)) (rest := r.map (z_tr ad sa)) (n := 0) (index := i) ⟨C.1, C.2.1, C.2.2.2.1, C.2.2.2.2.1, C.2.2.2.2.2.1⟩ (zc_len l _ _ _) ⟨callB_of 0 C.2.2.2.2.2.1 zg_len rfl rfl rfl (C.2.2.2.2.2.1 _ zx_iS) (C.2.2.2.2.2.1 _ hlk) (by decide +kernel) ⟨by show 2 + 1 ≤ R.frames; omega, by show 8 + (1 + 11) + 40 * 2 ≤ R.locals; omega⟩, C.2.2.2.2.2.1 _ zx_len_i, C.2.2.2.2.2.1 _ zx_len_sel⟩ ⟨z_sFb, (by
    obtain ⟨cell, q1, q2, q3, -⟩ := e2.kept hS.2.1
    exact ⟨cell, q1, q2, q3⟩), fun U hU hW => ⟨rfl, hsF U hU hW⟩⟩ rfl rfl hl.1 rfl (lv_room (by rw [z_cs_tr]; exact hcs)) hd ⟨by omega, by omega⟩) (fun x hx9 => ?_)
  rw [hx9]
  exact h2
theorem zs_charat (C : z_Cx p s mt args meth c own cc nL ini rt) (En : z_En sa sv A s s.heap) (hA : ∀ q, s.heap.size ≤ q → A q) (hR : z_Rm R n0 nf) {ip i k : Nat} {lv : zL} {r : List Value} {m : zM} (hcs : z_cs r ≤ 8) (hd : decode cc (z_pc cd ip) = .ok (.invokevirtual i, 3)) (hn : z_pc cd (ip + 1) = z_pc cd ip + 3) (hk : z_sb < k) {j : Int32} (hlk : Cond.methodLink own i ⟨"java/lang/String", "charAt", "(I)C"⟩ ∈ z_tb) (hj : ¬ (j < 0 ∨ (z_tx (k - z_sb)).length ≤ j.toNatClampNeg)) (h : z_G p l e R s mt args below meth c Q D A sa ad0 n0 nf nL (z_pc cd) (ip + 1) lv (.int ((z_tx (k - z_sb)).getD j.toNatClampNeg 0) :: r) m) : z_G p l e R s mt args below meth c Q D A sa ad0 n0 nf nL (z_pc cd) ip lv (.int j :: .ref k :: r) m := by
  refine ⟨h.1, fun ad ac tys H locs ls hSt hl ho hvv => ?_⟩
  have hk2 : k < z_sb + 43 := by
    have := ho (.ref k) (List.mem_cons_of_mem _ List.mem_cons_self)
    rcases this with g | g
    · have h3 := hSt.2.2.2.2.2.1.2.2
      have h4 : z_sb = 1000000 := rfl
      have g2 : k < m.1 := g
      omega
    · exact g.2
  have h2 := h.2 ad ac tys H locs ls hSt hl (fun v hv => by
    rcases List.mem_cons.mp hv with rfl | g
    · simp [z_okv]
    · exact ho v (List.mem_cons_of_mem _ (List.mem_cons_of_mem _ g))) hvv
  rw [hn] at h2
  have hS := hSt.2.2.2.1
  have hs0 : 0 < k - z_sb := by omega
  have hs1 : k - z_sb < 43 := by omega
  obtain ⟨e1, e2, e3, e4, e5⟩ := En.2.1 (k - z_sb) hs0 hs1
  have hno : ∀ q, z_No q → A q := fun q h9 => h9.elim
  have e9 : z_tr ad sa (.ref k) = .ref (sa (k - z_sb)) := by
    simp only [z_tr]
    rw [if_neg (Nat.not_lt.mpr (Nat.le_of_lt hk))]
  have hsF : ∀ U : State, U.heap = H → s.WarmedH U.vm → z_sF (sa (k - z_sb)) (sv (k - z_sb)) (z_tx (k - z_sb)) U := by
    intro U hU hW
    have ha := hW.alike
    simp only [z_sF]
    rw [hU]
    exact ⟨((e2.kept hS.2.1).moved ha).narrow hno, ((e3.kept hS.2.1).moved ha).narrow hno, ((e4.kept hS.2.1).moved ha).narrow hno, ((e5.kept hS.2.1).moved ha).narrow hno, ((En.2.2.1.kept hS.2.1).moved ha).narrow hno, ((En.2.2.2.2.kept hS.2.1).moved ha).narrow hno⟩
  obtain ⟨r1, r2, r3, r4⟩ := hR
  have hle := h.1
  have hn0 := hSt.2.2.2.2.2.2.1
  have hsl := z_sl_mono hle
  obtain ⟨t1, t2⟩ := z_tx_ok (k - z_sb)
  show W p l e R s mt args below meth c H locs _ _ Q (F0 mt _ ls (.int j :: z_tr ad sa (.ref k) :: r.map (z_tr ad sa)))
  rw [e9]
  refine vp_callSi (W.runV (cc := cc) (nL := nL) (Ts := z_tb) (own := own) (C := "java/lang/String") (As := [.int j]) (b := sa (k - z_sb)) (rest := r.map (z_tr ad sa)) (n := 1) (index := i) ⟨C.1, C.2.1, C.2.2.2.1, C.2.2.2.2.1, C.2.2.2.2.2.1⟩ (zc_cha l _ _ _ j hj (Nat.lt_trans t1 (by decide)) (t2 _)) ⟨callB_of 1 C.2.2.2.2.2.1 zg_cha rfl rfl rfl (C.2.2.2.2.2.1 _ zx_iS) (C.2.2.2.2.2.1 _ hlk) (by decide +kernel) ⟨by show 4 + 1 ≤ R.frames; omega, by show 8 + (2 + 11) + 40 * 4 ≤ R.locals; omega⟩, C.2.2.2.2.2.1 _ zx_cha_i, C.2.2.2.2.2.1 _ zx_cha_sel⟩ ⟨z_sFb, (by
    obtain ⟨cell, q1, q2, q3, -⟩ := e2.kept hS.2.1
    exact ⟨cell, q1, q2, q3⟩), fun U hU hW => ⟨rfl, hsF U hU hW⟩⟩ rfl rfl hl.1 rfl (lv_room (by rw [z_cs_tr]; exact hcs)) hd ⟨by omega, by omega⟩) (fun x hx9 => ?_)
  rw [hx9]
  exact h2
end ZS
end
section
/-! ONE INSTRUCTION, whichever it is -/
def z_OS (l : Launch) (d : Nat) (o : zO) : Prop := (∀ k as m r, o.1 k as m = some r → z_Met l d k as m (some (.int r.1)) (m.1, m.2.1, r.2)) ∧ (∀ k as m r, o.2.1 k as m = some r → z_Met l d k as m (some (.long r.1)) (m.1, m.2.1, r.2)) ∧ (∀ k as m r, o.2.2.1 k as m = some r → z_Met l d k as m none (m.1, m.2.1, r)) ∧ (∀ k as m r, o.2.2.2.1 k as m = some r → z_Met l d k as m none r) ∧ ∀ k as m r, o.2.2.2.2 k as m = some r → z_Met l d k as m (some (.int r.1)) r.2
def z_rin (rt : Option FieldType) (v : Option Value) (ins : Instr) : Prop := match v with
  | some (.int x) => ins = .ireturn ∧ (rt = some .int ∨ (rt = some .boolean ∧ (x = 0 ∨ x = 1)))
  | some (.long _) => ins = .lreturn ∧ rt = some .long
  | none => ins = .return_ ∧ rt = none
  | _ => False
def z_WD : Prop := ∀ k, k < z_nm → z_wdM k = true
theorem z_sig_na {q n : Nat} (h : z_sig q n = true) : q / 4 % 16 = n ∧ q / 64 % 1000 < z_nm := by
  simp only [z_sig, Bool.and_eq_true, decide_eq_true_eq] at h
  exact h.1
theorem z_ref0_spec {ci : Nat} {as : List Value} (h : z_ref0 ci as = true) : ∃ rc as', as = .ref rc :: as' ∧ z_tk rc = 0 ∧ z_tn rc = ci := by
  match as, h with
  | .ref k :: t, h =>
    simp only [z_ref0, Bool.and_eq_true, Nat.beq_eq] at h
    exact ⟨k, t, rfl, h.1, h.2⟩
theorem z_cls_spec {q : Nat} (h : z_cls q = true) : ∃ cr, zC[q / 64000]? = some cr ∧ cr.1 = (z_y (q / 64 % 1000)).cls := by
  simp only [z_cls] at h
  cases hc : zC[q / 64000]? with
  | none => rw [hc] at h; cases h
  | some r => rw [hc] at h; exact ⟨r, rfl, of_decide_eq_true h⟩
theorem z_lnk_spec {own : String} {i pl q : Nat} (h : z_lnk own i pl q = true) : Cond.methodLink own i (z_y (q / 64 % 1000)) ∈ z_tb ∨ Cond.methodLinkNest own i (z_y (q / 64 % 1000)) "LongBoats" ∈ z_nw := by
  simp only [z_lnk, Bool.or_eq_true] at h
  rcases h with h | h
  · exact Or.inl (z_word h)
  · exact Or.inr (z_wordN h)
section ZS

variable {p : Program} {l : Launch} {e : Env} {R : Room} {s : State} {mt : MethodId} {args : Array Value} {below : List Frame} {meth : Method} {c : Code} {Q : State → Prop} {D : va_G} {A : Nat → Prop} {sa sv ad0 : Nat → Nat} {n0 nf nL : Nat} {cd : List zI} {own : String} {cc : ByteArray} {ini : Bool} {rt : Option FieldType}

theorem zq_iadd (C : z_Cx p s mt args meth c own cc nL ini rt) (En : z_En sa sv A s s.heap) (hA : ∀ q, s.heap.size ≤ q → A q) (hR : z_Rm R n0 nf) {d : Nat} (hRf : d + 9 ≤ R.frames) (hRl : 60 * d + 460 ≤ R.locals) (hWD : z_WD) {o : zO} (hO : z_OS l d o) {sc : Option (Nat × (Nat → Int32))} (hsc : ∀ L xs, sc = some (L, xs) → va_X (sa 0) L xs s s.heap ∧ sa 0 < s.heap.size ∧ ¬ A (sa 0)) {ip pl len : Nat} {raw : Instr} (hdec : decode cc (z_pc cd ip) = .ok (raw, len)) {Rt : Option Value → zM → Prop}
    {lv : zL} {st : List Value} {m : zM}  (hI : z_okI own nL ini rt cd ip (z_pc cd ip) pl (.iadd) raw len = true) (h : z_ps sc o (.iadd) lv st m False (fun lv st m => z_G p l e R s mt args below meth c Q D A sa ad0 n0 nf nL (z_pc cd) (ip + 1) lv st m) (fun t lv st m => z_G p l e R s mt args below meth c Q D A sa ad0 n0 nf nL (z_pc cd) t lv st m) Rt) : z_G p l e R s mt args below meth c Q D A sa ad0 n0 nf nL (z_pc cd) ip lv st m := by
  obtain ⟨rfl, rfl, hn⟩ := of_decide_eq_true hI
  simp only [z_ps] at h
  split at h
  · exact zs_iadd C hdec hn h
  · exact h.elim
theorem zq_isub (C : z_Cx p s mt args meth c own cc nL ini rt) (En : z_En sa sv A s s.heap) (hA : ∀ q, s.heap.size ≤ q → A q) (hR : z_Rm R n0 nf) {d : Nat} (hRf : d + 9 ≤ R.frames) (hRl : 60 * d + 460 ≤ R.locals) (hWD : z_WD) {o : zO} (hO : z_OS l d o) {sc : Option (Nat × (Nat → Int32))} (hsc : ∀ L xs, sc = some (L, xs) → va_X (sa 0) L xs s s.heap ∧ sa 0 < s.heap.size ∧ ¬ A (sa 0)) {ip pl len : Nat} {raw : Instr} (hdec : decode cc (z_pc cd ip) = .ok (raw, len)) {Rt : Option Value → zM → Prop}
    {lv : zL} {st : List Value} {m : zM}  (hI : z_okI own nL ini rt cd ip (z_pc cd ip) pl (.isub) raw len = true) (h : z_ps sc o (.isub) lv st m False (fun lv st m => z_G p l e R s mt args below meth c Q D A sa ad0 n0 nf nL (z_pc cd) (ip + 1) lv st m) (fun t lv st m => z_G p l e R s mt args below meth c Q D A sa ad0 n0 nf nL (z_pc cd) t lv st m) Rt) : z_G p l e R s mt args below meth c Q D A sa ad0 n0 nf nL (z_pc cd) ip lv st m := by
  obtain ⟨rfl, rfl, hn⟩ := of_decide_eq_true hI
  simp only [z_ps] at h
  split at h
  · exact zs_isub C hdec hn h
  · exact h.elim
theorem zq_imul (C : z_Cx p s mt args meth c own cc nL ini rt) (En : z_En sa sv A s s.heap) (hA : ∀ q, s.heap.size ≤ q → A q) (hR : z_Rm R n0 nf) {d : Nat} (hRf : d + 9 ≤ R.frames) (hRl : 60 * d + 460 ≤ R.locals) (hWD : z_WD) {o : zO} (hO : z_OS l d o) {sc : Option (Nat × (Nat → Int32))} (hsc : ∀ L xs, sc = some (L, xs) → va_X (sa 0) L xs s s.heap ∧ sa 0 < s.heap.size ∧ ¬ A (sa 0)) {ip pl len : Nat} {raw : Instr} (hdec : decode cc (z_pc cd ip) = .ok (raw, len)) {Rt : Option Value → zM → Prop}
    {lv : zL} {st : List Value} {m : zM}  (hI : z_okI own nL ini rt cd ip (z_pc cd ip) pl (.imul) raw len = true) (h : z_ps sc o (.imul) lv st m False (fun lv st m => z_G p l e R s mt args below meth c Q D A sa ad0 n0 nf nL (z_pc cd) (ip + 1) lv st m) (fun t lv st m => z_G p l e R s mt args below meth c Q D A sa ad0 n0 nf nL (z_pc cd) t lv st m) Rt) : z_G p l e R s mt args below meth c Q D A sa ad0 n0 nf nL (z_pc cd) ip lv st m := by
  obtain ⟨rfl, rfl, hn⟩ := of_decide_eq_true hI
  simp only [z_ps] at h
  split at h
  · exact zs_imul C hdec hn h
  · exact h.elim
theorem zq_iand (C : z_Cx p s mt args meth c own cc nL ini rt) (En : z_En sa sv A s s.heap) (hA : ∀ q, s.heap.size ≤ q → A q) (hR : z_Rm R n0 nf) {d : Nat} (hRf : d + 9 ≤ R.frames) (hRl : 60 * d + 460 ≤ R.locals) (hWD : z_WD) {o : zO} (hO : z_OS l d o) {sc : Option (Nat × (Nat → Int32))} (hsc : ∀ L xs, sc = some (L, xs) → va_X (sa 0) L xs s s.heap ∧ sa 0 < s.heap.size ∧ ¬ A (sa 0)) {ip pl len : Nat} {raw : Instr} (hdec : decode cc (z_pc cd ip) = .ok (raw, len)) {Rt : Option Value → zM → Prop}
    {lv : zL} {st : List Value} {m : zM}  (hI : z_okI own nL ini rt cd ip (z_pc cd ip) pl (.iand) raw len = true) (h : z_ps sc o (.iand) lv st m False (fun lv st m => z_G p l e R s mt args below meth c Q D A sa ad0 n0 nf nL (z_pc cd) (ip + 1) lv st m) (fun t lv st m => z_G p l e R s mt args below meth c Q D A sa ad0 n0 nf nL (z_pc cd) t lv st m) Rt) : z_G p l e R s mt args below meth c Q D A sa ad0 n0 nf nL (z_pc cd) ip lv st m := by
  obtain ⟨rfl, rfl, hn⟩ := of_decide_eq_true hI
  simp only [z_ps] at h
  split at h
  · exact zs_iand C hdec hn h
  · exact h.elim
theorem zq_ior (C : z_Cx p s mt args meth c own cc nL ini rt) (En : z_En sa sv A s s.heap) (hA : ∀ q, s.heap.size ≤ q → A q) (hR : z_Rm R n0 nf) {d : Nat} (hRf : d + 9 ≤ R.frames) (hRl : 60 * d + 460 ≤ R.locals) (hWD : z_WD) {o : zO} (hO : z_OS l d o) {sc : Option (Nat × (Nat → Int32))} (hsc : ∀ L xs, sc = some (L, xs) → va_X (sa 0) L xs s s.heap ∧ sa 0 < s.heap.size ∧ ¬ A (sa 0)) {ip pl len : Nat} {raw : Instr} (hdec : decode cc (z_pc cd ip) = .ok (raw, len)) {Rt : Option Value → zM → Prop}
    {lv : zL} {st : List Value} {m : zM}  (hI : z_okI own nL ini rt cd ip (z_pc cd ip) pl (.ior) raw len = true) (h : z_ps sc o (.ior) lv st m False (fun lv st m => z_G p l e R s mt args below meth c Q D A sa ad0 n0 nf nL (z_pc cd) (ip + 1) lv st m) (fun t lv st m => z_G p l e R s mt args below meth c Q D A sa ad0 n0 nf nL (z_pc cd) t lv st m) Rt) : z_G p l e R s mt args below meth c Q D A sa ad0 n0 nf nL (z_pc cd) ip lv st m := by
  obtain ⟨rfl, rfl, hn⟩ := of_decide_eq_true hI
  simp only [z_ps] at h
  split at h
  · exact zs_ior C hdec hn h
  · exact h.elim
theorem zq_ixor (C : z_Cx p s mt args meth c own cc nL ini rt) (En : z_En sa sv A s s.heap) (hA : ∀ q, s.heap.size ≤ q → A q) (hR : z_Rm R n0 nf) {d : Nat} (hRf : d + 9 ≤ R.frames) (hRl : 60 * d + 460 ≤ R.locals) (hWD : z_WD) {o : zO} (hO : z_OS l d o) {sc : Option (Nat × (Nat → Int32))} (hsc : ∀ L xs, sc = some (L, xs) → va_X (sa 0) L xs s s.heap ∧ sa 0 < s.heap.size ∧ ¬ A (sa 0)) {ip pl len : Nat} {raw : Instr} (hdec : decode cc (z_pc cd ip) = .ok (raw, len)) {Rt : Option Value → zM → Prop}
    {lv : zL} {st : List Value} {m : zM}  (hI : z_okI own nL ini rt cd ip (z_pc cd ip) pl (.ixor) raw len = true) (h : z_ps sc o (.ixor) lv st m False (fun lv st m => z_G p l e R s mt args below meth c Q D A sa ad0 n0 nf nL (z_pc cd) (ip + 1) lv st m) (fun t lv st m => z_G p l e R s mt args below meth c Q D A sa ad0 n0 nf nL (z_pc cd) t lv st m) Rt) : z_G p l e R s mt args below meth c Q D A sa ad0 n0 nf nL (z_pc cd) ip lv st m := by
  obtain ⟨rfl, rfl, hn⟩ := of_decide_eq_true hI
  simp only [z_ps] at h
  split at h
  · exact zs_ixor C hdec hn h
  · exact h.elim
theorem zq_ishl (C : z_Cx p s mt args meth c own cc nL ini rt) (En : z_En sa sv A s s.heap) (hA : ∀ q, s.heap.size ≤ q → A q) (hR : z_Rm R n0 nf) {d : Nat} (hRf : d + 9 ≤ R.frames) (hRl : 60 * d + 460 ≤ R.locals) (hWD : z_WD) {o : zO} (hO : z_OS l d o) {sc : Option (Nat × (Nat → Int32))} (hsc : ∀ L xs, sc = some (L, xs) → va_X (sa 0) L xs s s.heap ∧ sa 0 < s.heap.size ∧ ¬ A (sa 0)) {ip pl len : Nat} {raw : Instr} (hdec : decode cc (z_pc cd ip) = .ok (raw, len)) {Rt : Option Value → zM → Prop}
    {lv : zL} {st : List Value} {m : zM}  (hI : z_okI own nL ini rt cd ip (z_pc cd ip) pl (.ishl) raw len = true) (h : z_ps sc o (.ishl) lv st m False (fun lv st m => z_G p l e R s mt args below meth c Q D A sa ad0 n0 nf nL (z_pc cd) (ip + 1) lv st m) (fun t lv st m => z_G p l e R s mt args below meth c Q D A sa ad0 n0 nf nL (z_pc cd) t lv st m) Rt) : z_G p l e R s mt args below meth c Q D A sa ad0 n0 nf nL (z_pc cd) ip lv st m := by
  obtain ⟨rfl, rfl, hn⟩ := of_decide_eq_true hI
  simp only [z_ps] at h
  split at h
  · exact zs_ishl C hdec hn h
  · exact h.elim
theorem zq_ishr (C : z_Cx p s mt args meth c own cc nL ini rt) (En : z_En sa sv A s s.heap) (hA : ∀ q, s.heap.size ≤ q → A q) (hR : z_Rm R n0 nf) {d : Nat} (hRf : d + 9 ≤ R.frames) (hRl : 60 * d + 460 ≤ R.locals) (hWD : z_WD) {o : zO} (hO : z_OS l d o) {sc : Option (Nat × (Nat → Int32))} (hsc : ∀ L xs, sc = some (L, xs) → va_X (sa 0) L xs s s.heap ∧ sa 0 < s.heap.size ∧ ¬ A (sa 0)) {ip pl len : Nat} {raw : Instr} (hdec : decode cc (z_pc cd ip) = .ok (raw, len)) {Rt : Option Value → zM → Prop}
    {lv : zL} {st : List Value} {m : zM}  (hI : z_okI own nL ini rt cd ip (z_pc cd ip) pl (.ishr) raw len = true) (h : z_ps sc o (.ishr) lv st m False (fun lv st m => z_G p l e R s mt args below meth c Q D A sa ad0 n0 nf nL (z_pc cd) (ip + 1) lv st m) (fun t lv st m => z_G p l e R s mt args below meth c Q D A sa ad0 n0 nf nL (z_pc cd) t lv st m) Rt) : z_G p l e R s mt args below meth c Q D A sa ad0 n0 nf nL (z_pc cd) ip lv st m := by
  obtain ⟨rfl, rfl, hn⟩ := of_decide_eq_true hI
  simp only [z_ps] at h
  split at h
  · exact zs_ishr C hdec hn h
  · exact h.elim
theorem zq_ladd (C : z_Cx p s mt args meth c own cc nL ini rt) (En : z_En sa sv A s s.heap) (hA : ∀ q, s.heap.size ≤ q → A q) (hR : z_Rm R n0 nf) {d : Nat} (hRf : d + 9 ≤ R.frames) (hRl : 60 * d + 460 ≤ R.locals) (hWD : z_WD) {o : zO} (hO : z_OS l d o) {sc : Option (Nat × (Nat → Int32))} (hsc : ∀ L xs, sc = some (L, xs) → va_X (sa 0) L xs s s.heap ∧ sa 0 < s.heap.size ∧ ¬ A (sa 0)) {ip pl len : Nat} {raw : Instr} (hdec : decode cc (z_pc cd ip) = .ok (raw, len)) {Rt : Option Value → zM → Prop}
    {lv : zL} {st : List Value} {m : zM}  (hI : z_okI own nL ini rt cd ip (z_pc cd ip) pl (.ladd) raw len = true) (h : z_ps sc o (.ladd) lv st m False (fun lv st m => z_G p l e R s mt args below meth c Q D A sa ad0 n0 nf nL (z_pc cd) (ip + 1) lv st m) (fun t lv st m => z_G p l e R s mt args below meth c Q D A sa ad0 n0 nf nL (z_pc cd) t lv st m) Rt) : z_G p l e R s mt args below meth c Q D A sa ad0 n0 nf nL (z_pc cd) ip lv st m := by
  obtain ⟨rfl, rfl, hn⟩ := of_decide_eq_true hI
  simp only [z_ps] at h
  split at h
  · exact zs_ladd C hdec hn h
  · exact h.elim
theorem zq_lsub (C : z_Cx p s mt args meth c own cc nL ini rt) (En : z_En sa sv A s s.heap) (hA : ∀ q, s.heap.size ≤ q → A q) (hR : z_Rm R n0 nf) {d : Nat} (hRf : d + 9 ≤ R.frames) (hRl : 60 * d + 460 ≤ R.locals) (hWD : z_WD) {o : zO} (hO : z_OS l d o) {sc : Option (Nat × (Nat → Int32))} (hsc : ∀ L xs, sc = some (L, xs) → va_X (sa 0) L xs s s.heap ∧ sa 0 < s.heap.size ∧ ¬ A (sa 0)) {ip pl len : Nat} {raw : Instr} (hdec : decode cc (z_pc cd ip) = .ok (raw, len)) {Rt : Option Value → zM → Prop}
    {lv : zL} {st : List Value} {m : zM}  (hI : z_okI own nL ini rt cd ip (z_pc cd ip) pl (.lsub) raw len = true) (h : z_ps sc o (.lsub) lv st m False (fun lv st m => z_G p l e R s mt args below meth c Q D A sa ad0 n0 nf nL (z_pc cd) (ip + 1) lv st m) (fun t lv st m => z_G p l e R s mt args below meth c Q D A sa ad0 n0 nf nL (z_pc cd) t lv st m) Rt) : z_G p l e R s mt args below meth c Q D A sa ad0 n0 nf nL (z_pc cd) ip lv st m := by
  obtain ⟨rfl, rfl, hn⟩ := of_decide_eq_true hI
  simp only [z_ps] at h
  split at h
  · exact zs_lsub C hdec hn h
  · exact h.elim
theorem zq_lmul (C : z_Cx p s mt args meth c own cc nL ini rt) (En : z_En sa sv A s s.heap) (hA : ∀ q, s.heap.size ≤ q → A q) (hR : z_Rm R n0 nf) {d : Nat} (hRf : d + 9 ≤ R.frames) (hRl : 60 * d + 460 ≤ R.locals) (hWD : z_WD) {o : zO} (hO : z_OS l d o) {sc : Option (Nat × (Nat → Int32))} (hsc : ∀ L xs, sc = some (L, xs) → va_X (sa 0) L xs s s.heap ∧ sa 0 < s.heap.size ∧ ¬ A (sa 0)) {ip pl len : Nat} {raw : Instr} (hdec : decode cc (z_pc cd ip) = .ok (raw, len)) {Rt : Option Value → zM → Prop}
    {lv : zL} {st : List Value} {m : zM}  (hI : z_okI own nL ini rt cd ip (z_pc cd ip) pl (.lmul) raw len = true) (h : z_ps sc o (.lmul) lv st m False (fun lv st m => z_G p l e R s mt args below meth c Q D A sa ad0 n0 nf nL (z_pc cd) (ip + 1) lv st m) (fun t lv st m => z_G p l e R s mt args below meth c Q D A sa ad0 n0 nf nL (z_pc cd) t lv st m) Rt) : z_G p l e R s mt args below meth c Q D A sa ad0 n0 nf nL (z_pc cd) ip lv st m := by
  obtain ⟨rfl, rfl, hn⟩ := of_decide_eq_true hI
  simp only [z_ps] at h
  split at h
  · exact zs_lmul C hdec hn h
  · exact h.elim
theorem zq_land (C : z_Cx p s mt args meth c own cc nL ini rt) (En : z_En sa sv A s s.heap) (hA : ∀ q, s.heap.size ≤ q → A q) (hR : z_Rm R n0 nf) {d : Nat} (hRf : d + 9 ≤ R.frames) (hRl : 60 * d + 460 ≤ R.locals) (hWD : z_WD) {o : zO} (hO : z_OS l d o) {sc : Option (Nat × (Nat → Int32))} (hsc : ∀ L xs, sc = some (L, xs) → va_X (sa 0) L xs s s.heap ∧ sa 0 < s.heap.size ∧ ¬ A (sa 0)) {ip pl len : Nat} {raw : Instr} (hdec : decode cc (z_pc cd ip) = .ok (raw, len)) {Rt : Option Value → zM → Prop}
    {lv : zL} {st : List Value} {m : zM}  (hI : z_okI own nL ini rt cd ip (z_pc cd ip) pl (.land) raw len = true) (h : z_ps sc o (.land) lv st m False (fun lv st m => z_G p l e R s mt args below meth c Q D A sa ad0 n0 nf nL (z_pc cd) (ip + 1) lv st m) (fun t lv st m => z_G p l e R s mt args below meth c Q D A sa ad0 n0 nf nL (z_pc cd) t lv st m) Rt) : z_G p l e R s mt args below meth c Q D A sa ad0 n0 nf nL (z_pc cd) ip lv st m := by
  obtain ⟨rfl, rfl, hn⟩ := of_decide_eq_true hI
  simp only [z_ps] at h
  split at h
  · exact zs_land C hdec hn h
  · exact h.elim
theorem zq_lor (C : z_Cx p s mt args meth c own cc nL ini rt) (En : z_En sa sv A s s.heap) (hA : ∀ q, s.heap.size ≤ q → A q) (hR : z_Rm R n0 nf) {d : Nat} (hRf : d + 9 ≤ R.frames) (hRl : 60 * d + 460 ≤ R.locals) (hWD : z_WD) {o : zO} (hO : z_OS l d o) {sc : Option (Nat × (Nat → Int32))} (hsc : ∀ L xs, sc = some (L, xs) → va_X (sa 0) L xs s s.heap ∧ sa 0 < s.heap.size ∧ ¬ A (sa 0)) {ip pl len : Nat} {raw : Instr} (hdec : decode cc (z_pc cd ip) = .ok (raw, len)) {Rt : Option Value → zM → Prop}
    {lv : zL} {st : List Value} {m : zM}  (hI : z_okI own nL ini rt cd ip (z_pc cd ip) pl (.lor) raw len = true) (h : z_ps sc o (.lor) lv st m False (fun lv st m => z_G p l e R s mt args below meth c Q D A sa ad0 n0 nf nL (z_pc cd) (ip + 1) lv st m) (fun t lv st m => z_G p l e R s mt args below meth c Q D A sa ad0 n0 nf nL (z_pc cd) t lv st m) Rt) : z_G p l e R s mt args below meth c Q D A sa ad0 n0 nf nL (z_pc cd) ip lv st m := by
  obtain ⟨rfl, rfl, hn⟩ := of_decide_eq_true hI
  simp only [z_ps] at h
  split at h
  · exact zs_lor C hdec hn h
  · exact h.elim
theorem zq_lshl (C : z_Cx p s mt args meth c own cc nL ini rt) (En : z_En sa sv A s s.heap) (hA : ∀ q, s.heap.size ≤ q → A q) (hR : z_Rm R n0 nf) {d : Nat} (hRf : d + 9 ≤ R.frames) (hRl : 60 * d + 460 ≤ R.locals) (hWD : z_WD) {o : zO} (hO : z_OS l d o) {sc : Option (Nat × (Nat → Int32))} (hsc : ∀ L xs, sc = some (L, xs) → va_X (sa 0) L xs s s.heap ∧ sa 0 < s.heap.size ∧ ¬ A (sa 0)) {ip pl len : Nat} {raw : Instr} (hdec : decode cc (z_pc cd ip) = .ok (raw, len)) {Rt : Option Value → zM → Prop}
    {lv : zL} {st : List Value} {m : zM}  (hI : z_okI own nL ini rt cd ip (z_pc cd ip) pl (.lshl) raw len = true) (h : z_ps sc o (.lshl) lv st m False (fun lv st m => z_G p l e R s mt args below meth c Q D A sa ad0 n0 nf nL (z_pc cd) (ip + 1) lv st m) (fun t lv st m => z_G p l e R s mt args below meth c Q D A sa ad0 n0 nf nL (z_pc cd) t lv st m) Rt) : z_G p l e R s mt args below meth c Q D A sa ad0 n0 nf nL (z_pc cd) ip lv st m := by
  obtain ⟨rfl, rfl, hn⟩ := of_decide_eq_true hI
  simp only [z_ps] at h
  split at h
  · exact zs_lshl C hdec hn h
  · exact h.elim
theorem zq_lshr (C : z_Cx p s mt args meth c own cc nL ini rt) (En : z_En sa sv A s s.heap) (hA : ∀ q, s.heap.size ≤ q → A q) (hR : z_Rm R n0 nf) {d : Nat} (hRf : d + 9 ≤ R.frames) (hRl : 60 * d + 460 ≤ R.locals) (hWD : z_WD) {o : zO} (hO : z_OS l d o) {sc : Option (Nat × (Nat → Int32))} (hsc : ∀ L xs, sc = some (L, xs) → va_X (sa 0) L xs s s.heap ∧ sa 0 < s.heap.size ∧ ¬ A (sa 0)) {ip pl len : Nat} {raw : Instr} (hdec : decode cc (z_pc cd ip) = .ok (raw, len)) {Rt : Option Value → zM → Prop}
    {lv : zL} {st : List Value} {m : zM}  (hI : z_okI own nL ini rt cd ip (z_pc cd ip) pl (.lshr) raw len = true) (h : z_ps sc o (.lshr) lv st m False (fun lv st m => z_G p l e R s mt args below meth c Q D A sa ad0 n0 nf nL (z_pc cd) (ip + 1) lv st m) (fun t lv st m => z_G p l e R s mt args below meth c Q D A sa ad0 n0 nf nL (z_pc cd) t lv st m) Rt) : z_G p l e R s mt args below meth c Q D A sa ad0 n0 nf nL (z_pc cd) ip lv st m := by
  obtain ⟨rfl, rfl, hn⟩ := of_decide_eq_true hI
  simp only [z_ps] at h
  split at h
  · exact zs_lshr C hdec hn h
  · exact h.elim
theorem zq_lcmp (C : z_Cx p s mt args meth c own cc nL ini rt) (En : z_En sa sv A s s.heap) (hA : ∀ q, s.heap.size ≤ q → A q) (hR : z_Rm R n0 nf) {d : Nat} (hRf : d + 9 ≤ R.frames) (hRl : 60 * d + 460 ≤ R.locals) (hWD : z_WD) {o : zO} (hO : z_OS l d o) {sc : Option (Nat × (Nat → Int32))} (hsc : ∀ L xs, sc = some (L, xs) → va_X (sa 0) L xs s s.heap ∧ sa 0 < s.heap.size ∧ ¬ A (sa 0)) {ip pl len : Nat} {raw : Instr} (hdec : decode cc (z_pc cd ip) = .ok (raw, len)) {Rt : Option Value → zM → Prop}
    {lv : zL} {st : List Value} {m : zM}  (hI : z_okI own nL ini rt cd ip (z_pc cd ip) pl (.lcmp) raw len = true) (h : z_ps sc o (.lcmp) lv st m False (fun lv st m => z_G p l e R s mt args below meth c Q D A sa ad0 n0 nf nL (z_pc cd) (ip + 1) lv st m) (fun t lv st m => z_G p l e R s mt args below meth c Q D A sa ad0 n0 nf nL (z_pc cd) t lv st m) Rt) : z_G p l e R s mt args below meth c Q D A sa ad0 n0 nf nL (z_pc cd) ip lv st m := by
  obtain ⟨rfl, rfl, hn⟩ := of_decide_eq_true hI
  simp only [z_ps] at h
  split at h
  · exact zs_lcmp C hdec hn h
  · exact h.elim
theorem zq_ineg (C : z_Cx p s mt args meth c own cc nL ini rt) (En : z_En sa sv A s s.heap) (hA : ∀ q, s.heap.size ≤ q → A q) (hR : z_Rm R n0 nf) {d : Nat} (hRf : d + 9 ≤ R.frames) (hRl : 60 * d + 460 ≤ R.locals) (hWD : z_WD) {o : zO} (hO : z_OS l d o) {sc : Option (Nat × (Nat → Int32))} (hsc : ∀ L xs, sc = some (L, xs) → va_X (sa 0) L xs s s.heap ∧ sa 0 < s.heap.size ∧ ¬ A (sa 0)) {ip pl len : Nat} {raw : Instr} (hdec : decode cc (z_pc cd ip) = .ok (raw, len)) {Rt : Option Value → zM → Prop}
    {lv : zL} {st : List Value} {m : zM}  (hI : z_okI own nL ini rt cd ip (z_pc cd ip) pl (.ineg) raw len = true) (h : z_ps sc o (.ineg) lv st m False (fun lv st m => z_G p l e R s mt args below meth c Q D A sa ad0 n0 nf nL (z_pc cd) (ip + 1) lv st m) (fun t lv st m => z_G p l e R s mt args below meth c Q D A sa ad0 n0 nf nL (z_pc cd) t lv st m) Rt) : z_G p l e R s mt args below meth c Q D A sa ad0 n0 nf nL (z_pc cd) ip lv st m := by
  obtain ⟨rfl, rfl, hn⟩ := of_decide_eq_true hI
  simp only [z_ps] at h
  split at h
  · exact zs_ineg C hdec hn h
  · exact h.elim
theorem zq_i2l (C : z_Cx p s mt args meth c own cc nL ini rt) (En : z_En sa sv A s s.heap) (hA : ∀ q, s.heap.size ≤ q → A q) (hR : z_Rm R n0 nf) {d : Nat} (hRf : d + 9 ≤ R.frames) (hRl : 60 * d + 460 ≤ R.locals) (hWD : z_WD) {o : zO} (hO : z_OS l d o) {sc : Option (Nat × (Nat → Int32))} (hsc : ∀ L xs, sc = some (L, xs) → va_X (sa 0) L xs s s.heap ∧ sa 0 < s.heap.size ∧ ¬ A (sa 0)) {ip pl len : Nat} {raw : Instr} (hdec : decode cc (z_pc cd ip) = .ok (raw, len)) {Rt : Option Value → zM → Prop}
    {lv : zL} {st : List Value} {m : zM}  (hI : z_okI own nL ini rt cd ip (z_pc cd ip) pl (.i2l) raw len = true) (h : z_ps sc o (.i2l) lv st m False (fun lv st m => z_G p l e R s mt args below meth c Q D A sa ad0 n0 nf nL (z_pc cd) (ip + 1) lv st m) (fun t lv st m => z_G p l e R s mt args below meth c Q D A sa ad0 n0 nf nL (z_pc cd) t lv st m) Rt) : z_G p l e R s mt args below meth c Q D A sa ad0 n0 nf nL (z_pc cd) ip lv st m := by
  obtain ⟨rfl, rfl, hn⟩ := of_decide_eq_true hI
  simp only [z_ps] at h
  split at h
  · exact zs_i2l C hdec hn h
  · exact h.elim
theorem zq_l2i (C : z_Cx p s mt args meth c own cc nL ini rt) (En : z_En sa sv A s s.heap) (hA : ∀ q, s.heap.size ≤ q → A q) (hR : z_Rm R n0 nf) {d : Nat} (hRf : d + 9 ≤ R.frames) (hRl : 60 * d + 460 ≤ R.locals) (hWD : z_WD) {o : zO} (hO : z_OS l d o) {sc : Option (Nat × (Nat → Int32))} (hsc : ∀ L xs, sc = some (L, xs) → va_X (sa 0) L xs s s.heap ∧ sa 0 < s.heap.size ∧ ¬ A (sa 0)) {ip pl len : Nat} {raw : Instr} (hdec : decode cc (z_pc cd ip) = .ok (raw, len)) {Rt : Option Value → zM → Prop}
    {lv : zL} {st : List Value} {m : zM}  (hI : z_okI own nL ini rt cd ip (z_pc cd ip) pl (.l2i) raw len = true) (h : z_ps sc o (.l2i) lv st m False (fun lv st m => z_G p l e R s mt args below meth c Q D A sa ad0 n0 nf nL (z_pc cd) (ip + 1) lv st m) (fun t lv st m => z_G p l e R s mt args below meth c Q D A sa ad0 n0 nf nL (z_pc cd) t lv st m) Rt) : z_G p l e R s mt args below meth c Q D A sa ad0 n0 nf nL (z_pc cd) ip lv st m := by
  obtain ⟨rfl, rfl, hn⟩ := of_decide_eq_true hI
  simp only [z_ps] at h
  split at h
  · exact zs_l2i C hdec hn h
  · exact h.elim
theorem zq_i2b (C : z_Cx p s mt args meth c own cc nL ini rt) (En : z_En sa sv A s s.heap) (hA : ∀ q, s.heap.size ≤ q → A q) (hR : z_Rm R n0 nf) {d : Nat} (hRf : d + 9 ≤ R.frames) (hRl : 60 * d + 460 ≤ R.locals) (hWD : z_WD) {o : zO} (hO : z_OS l d o) {sc : Option (Nat × (Nat → Int32))} (hsc : ∀ L xs, sc = some (L, xs) → va_X (sa 0) L xs s s.heap ∧ sa 0 < s.heap.size ∧ ¬ A (sa 0)) {ip pl len : Nat} {raw : Instr} (hdec : decode cc (z_pc cd ip) = .ok (raw, len)) {Rt : Option Value → zM → Prop}
    {lv : zL} {st : List Value} {m : zM}  (hI : z_okI own nL ini rt cd ip (z_pc cd ip) pl (.i2b) raw len = true) (h : z_ps sc o (.i2b) lv st m False (fun lv st m => z_G p l e R s mt args below meth c Q D A sa ad0 n0 nf nL (z_pc cd) (ip + 1) lv st m) (fun t lv st m => z_G p l e R s mt args below meth c Q D A sa ad0 n0 nf nL (z_pc cd) t lv st m) Rt) : z_G p l e R s mt args below meth c Q D A sa ad0 n0 nf nL (z_pc cd) ip lv st m := by
  obtain ⟨rfl, rfl, hn⟩ := of_decide_eq_true hI
  simp only [z_ps] at h
  split at h
  · exact zs_i2b C hdec hn h
  · exact h.elim
theorem zq_i2s (C : z_Cx p s mt args meth c own cc nL ini rt) (En : z_En sa sv A s s.heap) (hA : ∀ q, s.heap.size ≤ q → A q) (hR : z_Rm R n0 nf) {d : Nat} (hRf : d + 9 ≤ R.frames) (hRl : 60 * d + 460 ≤ R.locals) (hWD : z_WD) {o : zO} (hO : z_OS l d o) {sc : Option (Nat × (Nat → Int32))} (hsc : ∀ L xs, sc = some (L, xs) → va_X (sa 0) L xs s s.heap ∧ sa 0 < s.heap.size ∧ ¬ A (sa 0)) {ip pl len : Nat} {raw : Instr} (hdec : decode cc (z_pc cd ip) = .ok (raw, len)) {Rt : Option Value → zM → Prop}
    {lv : zL} {st : List Value} {m : zM}  (hI : z_okI own nL ini rt cd ip (z_pc cd ip) pl (.i2s) raw len = true) (h : z_ps sc o (.i2s) lv st m False (fun lv st m => z_G p l e R s mt args below meth c Q D A sa ad0 n0 nf nL (z_pc cd) (ip + 1) lv st m) (fun t lv st m => z_G p l e R s mt args below meth c Q D A sa ad0 n0 nf nL (z_pc cd) t lv st m) Rt) : z_G p l e R s mt args below meth c Q D A sa ad0 n0 nf nL (z_pc cd) ip lv st m := by
  obtain ⟨rfl, rfl, hn⟩ := of_decide_eq_true hI
  simp only [z_ps] at h
  split at h
  · exact zs_i2s C hdec hn h
  · exact h.elim
theorem zq_idiv (C : z_Cx p s mt args meth c own cc nL ini rt) (En : z_En sa sv A s s.heap) (hA : ∀ q, s.heap.size ≤ q → A q) (hR : z_Rm R n0 nf) {d : Nat} (hRf : d + 9 ≤ R.frames) (hRl : 60 * d + 460 ≤ R.locals) (hWD : z_WD) {o : zO} (hO : z_OS l d o) {sc : Option (Nat × (Nat → Int32))} (hsc : ∀ L xs, sc = some (L, xs) → va_X (sa 0) L xs s s.heap ∧ sa 0 < s.heap.size ∧ ¬ A (sa 0)) {ip pl len : Nat} {raw : Instr} (hdec : decode cc (z_pc cd ip) = .ok (raw, len)) {Rt : Option Value → zM → Prop}
    {lv : zL} {st : List Value} {m : zM}  (hI : z_okI own nL ini rt cd ip (z_pc cd ip) pl (.idiv) raw len = true) (h : z_ps sc o (.idiv) lv st m False (fun lv st m => z_G p l e R s mt args below meth c Q D A sa ad0 n0 nf nL (z_pc cd) (ip + 1) lv st m) (fun t lv st m => z_G p l e R s mt args below meth c Q D A sa ad0 n0 nf nL (z_pc cd) t lv st m) Rt) : z_G p l e R s mt args below meth c Q D A sa ad0 n0 nf nL (z_pc cd) ip lv st m := by
  obtain ⟨rfl, rfl, hn⟩ := of_decide_eq_true hI
  simp only [z_ps] at h
  split at h
  · rename_i y x r
    by_cases hy : y = 0
    · rw [if_pos hy] at h; exact h.elim
    · rw [if_neg hy] at h
      exact zs_idiv C hy hdec hn h
  · exact h.elim
theorem zq_irem (C : z_Cx p s mt args meth c own cc nL ini rt) (En : z_En sa sv A s s.heap) (hA : ∀ q, s.heap.size ≤ q → A q) (hR : z_Rm R n0 nf) {d : Nat} (hRf : d + 9 ≤ R.frames) (hRl : 60 * d + 460 ≤ R.locals) (hWD : z_WD) {o : zO} (hO : z_OS l d o) {sc : Option (Nat × (Nat → Int32))} (hsc : ∀ L xs, sc = some (L, xs) → va_X (sa 0) L xs s s.heap ∧ sa 0 < s.heap.size ∧ ¬ A (sa 0)) {ip pl len : Nat} {raw : Instr} (hdec : decode cc (z_pc cd ip) = .ok (raw, len)) {Rt : Option Value → zM → Prop}
    {lv : zL} {st : List Value} {m : zM}  (hI : z_okI own nL ini rt cd ip (z_pc cd ip) pl (.irem) raw len = true) (h : z_ps sc o (.irem) lv st m False (fun lv st m => z_G p l e R s mt args below meth c Q D A sa ad0 n0 nf nL (z_pc cd) (ip + 1) lv st m) (fun t lv st m => z_G p l e R s mt args below meth c Q D A sa ad0 n0 nf nL (z_pc cd) t lv st m) Rt) : z_G p l e R s mt args below meth c Q D A sa ad0 n0 nf nL (z_pc cd) ip lv st m := by
  obtain ⟨rfl, rfl, hn⟩ := of_decide_eq_true hI
  simp only [z_ps] at h
  split at h
  · rename_i y x r
    by_cases hy : y = 0
    · rw [if_pos hy] at h; exact h.elim
    · rw [if_neg hy] at h
      exact zs_irem C hy hdec hn h
  · exact h.elim
theorem zq_ldiv (C : z_Cx p s mt args meth c own cc nL ini rt) (En : z_En sa sv A s s.heap) (hA : ∀ q, s.heap.size ≤ q → A q) (hR : z_Rm R n0 nf) {d : Nat} (hRf : d + 9 ≤ R.frames) (hRl : 60 * d + 460 ≤ R.locals) (hWD : z_WD) {o : zO} (hO : z_OS l d o) {sc : Option (Nat × (Nat → Int32))} (hsc : ∀ L xs, sc = some (L, xs) → va_X (sa 0) L xs s s.heap ∧ sa 0 < s.heap.size ∧ ¬ A (sa 0)) {ip pl len : Nat} {raw : Instr} (hdec : decode cc (z_pc cd ip) = .ok (raw, len)) {Rt : Option Value → zM → Prop}
    {lv : zL} {st : List Value} {m : zM}  (hI : z_okI own nL ini rt cd ip (z_pc cd ip) pl (.ldiv) raw len = true) (h : z_ps sc o (.ldiv) lv st m False (fun lv st m => z_G p l e R s mt args below meth c Q D A sa ad0 n0 nf nL (z_pc cd) (ip + 1) lv st m) (fun t lv st m => z_G p l e R s mt args below meth c Q D A sa ad0 n0 nf nL (z_pc cd) t lv st m) Rt) : z_G p l e R s mt args below meth c Q D A sa ad0 n0 nf nL (z_pc cd) ip lv st m := by
  obtain ⟨rfl, rfl, hn⟩ := of_decide_eq_true hI
  simp only [z_ps] at h
  split at h
  · rename_i y x r
    by_cases hy : y = 0
    · rw [if_pos hy] at h; exact h.elim
    · rw [if_neg hy] at h
      exact zs_ldiv C hy hdec hn h
  · exact h.elim
theorem zq_lrem (C : z_Cx p s mt args meth c own cc nL ini rt) (En : z_En sa sv A s s.heap) (hA : ∀ q, s.heap.size ≤ q → A q) (hR : z_Rm R n0 nf) {d : Nat} (hRf : d + 9 ≤ R.frames) (hRl : 60 * d + 460 ≤ R.locals) (hWD : z_WD) {o : zO} (hO : z_OS l d o) {sc : Option (Nat × (Nat → Int32))} (hsc : ∀ L xs, sc = some (L, xs) → va_X (sa 0) L xs s s.heap ∧ sa 0 < s.heap.size ∧ ¬ A (sa 0)) {ip pl len : Nat} {raw : Instr} (hdec : decode cc (z_pc cd ip) = .ok (raw, len)) {Rt : Option Value → zM → Prop}
    {lv : zL} {st : List Value} {m : zM}  (hI : z_okI own nL ini rt cd ip (z_pc cd ip) pl (.lrem) raw len = true) (h : z_ps sc o (.lrem) lv st m False (fun lv st m => z_G p l e R s mt args below meth c Q D A sa ad0 n0 nf nL (z_pc cd) (ip + 1) lv st m) (fun t lv st m => z_G p l e R s mt args below meth c Q D A sa ad0 n0 nf nL (z_pc cd) t lv st m) Rt) : z_G p l e R s mt args below meth c Q D A sa ad0 n0 nf nL (z_pc cd) ip lv st m := by
  obtain ⟨rfl, rfl, hn⟩ := of_decide_eq_true hI
  simp only [z_ps] at h
  split at h
  · rename_i y x r
    by_cases hy : y = 0
    · rw [if_pos hy] at h; exact h.elim
    · rw [if_neg hy] at h
      exact zs_lrem C hy hdec hn h
  · exact h.elim
theorem zq_dup (C : z_Cx p s mt args meth c own cc nL ini rt) (En : z_En sa sv A s s.heap) (hA : ∀ q, s.heap.size ≤ q → A q) (hR : z_Rm R n0 nf) {d : Nat} (hRf : d + 9 ≤ R.frames) (hRl : 60 * d + 460 ≤ R.locals) (hWD : z_WD) {o : zO} (hO : z_OS l d o) {sc : Option (Nat × (Nat → Int32))} (hsc : ∀ L xs, sc = some (L, xs) → va_X (sa 0) L xs s s.heap ∧ sa 0 < s.heap.size ∧ ¬ A (sa 0)) {ip pl len : Nat} {raw : Instr} (hdec : decode cc (z_pc cd ip) = .ok (raw, len)) {Rt : Option Value → zM → Prop}
    {lv : zL} {st : List Value} {m : zM}  (hI : z_okI own nL ini rt cd ip (z_pc cd ip) pl (.dup) raw len = true) (h : z_ps sc o (.dup) lv st m False (fun lv st m => z_G p l e R s mt args below meth c Q D A sa ad0 n0 nf nL (z_pc cd) (ip + 1) lv st m) (fun t lv st m => z_G p l e R s mt args below meth c Q D A sa ad0 n0 nf nL (z_pc cd) t lv st m) Rt) : z_G p l e R s mt args below meth c Q D A sa ad0 n0 nf nL (z_pc cd) ip lv st m := by
  obtain ⟨rfl, rfl, hn⟩ := of_decide_eq_true hI
  simp only [z_ps] at h
  split at h
  · exact zs_dup C rfl hdec hn h
  · exact zs_dup C rfl hdec hn h
  · exact h.elim
theorem zq_dup2 (C : z_Cx p s mt args meth c own cc nL ini rt) (En : z_En sa sv A s s.heap) (hA : ∀ q, s.heap.size ≤ q → A q) (hR : z_Rm R n0 nf) {d : Nat} (hRf : d + 9 ≤ R.frames) (hRl : 60 * d + 460 ≤ R.locals) (hWD : z_WD) {o : zO} (hO : z_OS l d o) {sc : Option (Nat × (Nat → Int32))} (hsc : ∀ L xs, sc = some (L, xs) → va_X (sa 0) L xs s s.heap ∧ sa 0 < s.heap.size ∧ ¬ A (sa 0)) {ip pl len : Nat} {raw : Instr} (hdec : decode cc (z_pc cd ip) = .ok (raw, len)) {Rt : Option Value → zM → Prop}
    {lv : zL} {st : List Value} {m : zM}  (hI : z_okI own nL ini rt cd ip (z_pc cd ip) pl (.dup2) raw len = true) (h : z_ps sc o (.dup2) lv st m False (fun lv st m => z_G p l e R s mt args below meth c Q D A sa ad0 n0 nf nL (z_pc cd) (ip + 1) lv st m) (fun t lv st m => z_G p l e R s mt args below meth c Q D A sa ad0 n0 nf nL (z_pc cd) t lv st m) Rt) : z_G p l e R s mt args below meth c Q D A sa ad0 n0 nf nL (z_pc cd) ip lv st m := by
  obtain ⟨rfl, rfl, hn⟩ := of_decide_eq_true hI
  simp only [z_ps] at h
  split at h
  · exact zs_dup2 C rfl rfl hdec hn h
  · exact zs_dup2 C rfl rfl hdec hn h
  · exact h.elim
theorem zq_iconst (C : z_Cx p s mt args meth c own cc nL ini rt) (En : z_En sa sv A s s.heap) (hA : ∀ q, s.heap.size ≤ q → A q) (hR : z_Rm R n0 nf) {d : Nat} (hRf : d + 9 ≤ R.frames) (hRl : 60 * d + 460 ≤ R.locals) (hWD : z_WD) {o : zO} (hO : z_OS l d o) {sc : Option (Nat × (Nat → Int32))} (hsc : ∀ L xs, sc = some (L, xs) → va_X (sa 0) L xs s s.heap ∧ sa 0 < s.heap.size ∧ ¬ A (sa 0)) {ip pl len : Nat} {raw : Instr} (hdec : decode cc (z_pc cd ip) = .ok (raw, len)) {Rt : Option Value → zM → Prop}
    {lv : zL} {st : List Value} {m : zM} {n : Int} (hI : z_okI own nL ini rt cd ip (z_pc cd ip) pl (.iconst n) raw len = true) (h : z_ps sc o (.iconst n) lv st m False (fun lv st m => z_G p l e R s mt args below meth c Q D A sa ad0 n0 nf nL (z_pc cd) (ip + 1) lv st m) (fun t lv st m => z_G p l e R s mt args below meth c Q D A sa ad0 n0 nf nL (z_pc cd) t lv st m) Rt) : z_G p l e R s mt args below meth c Q D A sa ad0 n0 nf nL (z_pc cd) ip lv st m := by
  simp only [z_ps] at h
  exact zs_iconst C hdec hI h
theorem zq_ldc2_w (C : z_Cx p s mt args meth c own cc nL ini rt) (En : z_En sa sv A s s.heap) (hA : ∀ q, s.heap.size ≤ q → A q) (hR : z_Rm R n0 nf) {d : Nat} (hRf : d + 9 ≤ R.frames) (hRl : 60 * d + 460 ≤ R.locals) (hWD : z_WD) {o : zO} (hO : z_OS l d o) {sc : Option (Nat × (Nat → Int32))} (hsc : ∀ L xs, sc = some (L, xs) → va_X (sa 0) L xs s s.heap ∧ sa 0 < s.heap.size ∧ ¬ A (sa 0)) {ip pl len : Nat} {raw : Instr} (hdec : decode cc (z_pc cd ip) = .ok (raw, len)) {Rt : Option Value → zM → Prop}
    {lv : zL} {st : List Value} {m : zM} {k : Nat} (hI : z_okI own nL ini rt cd ip (z_pc cd ip) pl (.ldc2_w k) raw len = true) (h : z_ps sc o (.ldc2_w k) lv st m False (fun lv st m => z_G p l e R s mt args below meth c Q D A sa ad0 n0 nf nL (z_pc cd) (ip + 1) lv st m) (fun t lv st m => z_G p l e R s mt args below meth c Q D A sa ad0 n0 nf nL (z_pc cd) t lv st m) Rt) : z_G p l e R s mt args below meth c Q D A sa ad0 n0 nf nL (z_pc cd) ip lv st m := by
  simp only [z_ps] at h
  exact zs_lconst C hdec hI h
theorem zq_ldc (C : z_Cx p s mt args meth c own cc nL ini rt) (En : z_En sa sv A s s.heap) (hA : ∀ q, s.heap.size ≤ q → A q) (hR : z_Rm R n0 nf) {d : Nat} (hRf : d + 9 ≤ R.frames) (hRl : 60 * d + 460 ≤ R.locals) (hWD : z_WD) {o : zO} (hO : z_OS l d o) {sc : Option (Nat × (Nat → Int32))} (hsc : ∀ L xs, sc = some (L, xs) → va_X (sa 0) L xs s s.heap ∧ sa 0 < s.heap.size ∧ ¬ A (sa 0)) {ip pl len : Nat} {raw : Instr} (hdec : decode cc (z_pc cd ip) = .ok (raw, len)) {Rt : Option Value → zM → Prop}
    {lv : zL} {st : List Value} {m : zM} {k : Nat} (hI : z_okI own nL ini rt cd ip (z_pc cd ip) pl (.ldc k) raw len = true) (h : z_ps sc o (.ldc k) lv st m False (fun lv st m => z_G p l e R s mt args below meth c Q D A sa ad0 n0 nf nL (z_pc cd) (ip + 1) lv st m) (fun t lv st m => z_G p l e R s mt args below meth c Q D A sa ad0 n0 nf nL (z_pc cd) t lv st m) Rt) : z_G p l e R s mt args below meth c Q D A sa ad0 n0 nf nL (z_pc cd) ip lv st m := by
  simp only [z_ps] at h
  simp only [z_okI, Bool.and_eq_true, decide_eq_true_eq] at hI
  obtain ⟨hn, hr⟩ := hI
  cases raw <;> simp only [Bool.false_eq_true, decide_eq_true_eq] at hr
  obtain ⟨rfl, h0, h43, h1, h2⟩ := hr
  exact zs_ldcs C En hdec hn h0 h43 h1 h2 h
theorem zq_iload (C : z_Cx p s mt args meth c own cc nL ini rt) (En : z_En sa sv A s s.heap) (hA : ∀ q, s.heap.size ≤ q → A q) (hR : z_Rm R n0 nf) {d : Nat} (hRf : d + 9 ≤ R.frames) (hRl : 60 * d + 460 ≤ R.locals) (hWD : z_WD) {o : zO} (hO : z_OS l d o) {sc : Option (Nat × (Nat → Int32))} (hsc : ∀ L xs, sc = some (L, xs) → va_X (sa 0) L xs s s.heap ∧ sa 0 < s.heap.size ∧ ¬ A (sa 0)) {ip pl len : Nat} {raw : Instr} (hdec : decode cc (z_pc cd ip) = .ok (raw, len)) {Rt : Option Value → zM → Prop}
    {lv : zL} {st : List Value} {m : zM} {k : Nat} (hI : z_okI own nL ini rt cd ip (z_pc cd ip) pl (.iload k) raw len = true) (h : z_ps sc o (.iload k) lv st m False (fun lv st m => z_G p l e R s mt args below meth c Q D A sa ad0 n0 nf nL (z_pc cd) (ip + 1) lv st m) (fun t lv st m => z_G p l e R s mt args below meth c Q D A sa ad0 n0 nf nL (z_pc cd) t lv st m) Rt) : z_G p l e R s mt args below meth c Q D A sa ad0 n0 nf nL (z_pc cd) ip lv st m := by
  simp only [z_ps] at h
  simp only [z_okI, Bool.and_eq_true, decide_eq_true_eq] at hI
  obtain ⟨hn, hr⟩ := hI
  have hr2 : (raw = .iload k ∧ len = 2) ∨ ∃ i : Fin 4, raw = .iload_n i ∧ (i : Nat) = k ∧ len = 1 := by
    cases raw <;> simp only [Bool.false_eq_true, decide_eq_true_eq] at hr
    · exact Or.inl ⟨by rw [hr.2], hr.1⟩
    · exact Or.inr ⟨_, rfl, hr.2, hr.1⟩
  split at h
  · rename_i hx
    exact zs_iload C hdec hn hr2 hx h
  · exact h.elim
theorem zq_lload (C : z_Cx p s mt args meth c own cc nL ini rt) (En : z_En sa sv A s s.heap) (hA : ∀ q, s.heap.size ≤ q → A q) (hR : z_Rm R n0 nf) {d : Nat} (hRf : d + 9 ≤ R.frames) (hRl : 60 * d + 460 ≤ R.locals) (hWD : z_WD) {o : zO} (hO : z_OS l d o) {sc : Option (Nat × (Nat → Int32))} (hsc : ∀ L xs, sc = some (L, xs) → va_X (sa 0) L xs s s.heap ∧ sa 0 < s.heap.size ∧ ¬ A (sa 0)) {ip pl len : Nat} {raw : Instr} (hdec : decode cc (z_pc cd ip) = .ok (raw, len)) {Rt : Option Value → zM → Prop}
    {lv : zL} {st : List Value} {m : zM} {k : Nat} (hI : z_okI own nL ini rt cd ip (z_pc cd ip) pl (.lload k) raw len = true) (h : z_ps sc o (.lload k) lv st m False (fun lv st m => z_G p l e R s mt args below meth c Q D A sa ad0 n0 nf nL (z_pc cd) (ip + 1) lv st m) (fun t lv st m => z_G p l e R s mt args below meth c Q D A sa ad0 n0 nf nL (z_pc cd) t lv st m) Rt) : z_G p l e R s mt args below meth c Q D A sa ad0 n0 nf nL (z_pc cd) ip lv st m := by
  simp only [z_ps] at h
  simp only [z_okI, Bool.and_eq_true, decide_eq_true_eq] at hI
  obtain ⟨hn, hr⟩ := hI
  have hr2 : (raw = .lload k ∧ len = 2) ∨ ∃ i : Fin 4, raw = .lload_n i ∧ (i : Nat) = k ∧ len = 1 := by
    cases raw <;> simp only [Bool.false_eq_true, decide_eq_true_eq] at hr
    · exact Or.inl ⟨by rw [hr.2], hr.1⟩
    · exact Or.inr ⟨_, rfl, hr.2, hr.1⟩
  split at h
  · rename_i hx
    exact zs_lload C hdec hn hr2 hx h
  · exact h.elim
theorem zq_aload (C : z_Cx p s mt args meth c own cc nL ini rt) (En : z_En sa sv A s s.heap) (hA : ∀ q, s.heap.size ≤ q → A q) (hR : z_Rm R n0 nf) {d : Nat} (hRf : d + 9 ≤ R.frames) (hRl : 60 * d + 460 ≤ R.locals) (hWD : z_WD) {o : zO} (hO : z_OS l d o) {sc : Option (Nat × (Nat → Int32))} (hsc : ∀ L xs, sc = some (L, xs) → va_X (sa 0) L xs s s.heap ∧ sa 0 < s.heap.size ∧ ¬ A (sa 0)) {ip pl len : Nat} {raw : Instr} (hdec : decode cc (z_pc cd ip) = .ok (raw, len)) {Rt : Option Value → zM → Prop}
    {lv : zL} {st : List Value} {m : zM} {k : Nat} (hI : z_okI own nL ini rt cd ip (z_pc cd ip) pl (.aload k) raw len = true) (h : z_ps sc o (.aload k) lv st m False (fun lv st m => z_G p l e R s mt args below meth c Q D A sa ad0 n0 nf nL (z_pc cd) (ip + 1) lv st m) (fun t lv st m => z_G p l e R s mt args below meth c Q D A sa ad0 n0 nf nL (z_pc cd) t lv st m) Rt) : z_G p l e R s mt args below meth c Q D A sa ad0 n0 nf nL (z_pc cd) ip lv st m := by
  simp only [z_ps] at h
  simp only [z_okI, Bool.and_eq_true, decide_eq_true_eq] at hI
  obtain ⟨hn, hr⟩ := hI
  have hr2 : (raw = .aload k ∧ len = 2) ∨ ∃ i : Fin 4, raw = .aload_n i ∧ (i : Nat) = k ∧ len = 1 := by
    cases raw <;> simp only [Bool.false_eq_true, decide_eq_true_eq] at hr
    · exact Or.inl ⟨by rw [hr.2], hr.1⟩
    · exact Or.inr ⟨_, rfl, hr.2, hr.1⟩
  split at h
  · rename_i hx
    exact zs_aload C hdec hn hr2 hx h
  · rename_i hx
    exact zs_aloadN C hdec hn hr2 hx h
  · exact h.elim
theorem zq_istore (C : z_Cx p s mt args meth c own cc nL ini rt) (En : z_En sa sv A s s.heap) (hA : ∀ q, s.heap.size ≤ q → A q) (hR : z_Rm R n0 nf) {d : Nat} (hRf : d + 9 ≤ R.frames) (hRl : 60 * d + 460 ≤ R.locals) (hWD : z_WD) {o : zO} (hO : z_OS l d o) {sc : Option (Nat × (Nat → Int32))} (hsc : ∀ L xs, sc = some (L, xs) → va_X (sa 0) L xs s s.heap ∧ sa 0 < s.heap.size ∧ ¬ A (sa 0)) {ip pl len : Nat} {raw : Instr} (hdec : decode cc (z_pc cd ip) = .ok (raw, len)) {Rt : Option Value → zM → Prop}
    {lv : zL} {st : List Value} {m : zM} {k : Nat} (hI : z_okI own nL ini rt cd ip (z_pc cd ip) pl (.istore k) raw len = true) (h : z_ps sc o (.istore k) lv st m False (fun lv st m => z_G p l e R s mt args below meth c Q D A sa ad0 n0 nf nL (z_pc cd) (ip + 1) lv st m) (fun t lv st m => z_G p l e R s mt args below meth c Q D A sa ad0 n0 nf nL (z_pc cd) t lv st m) Rt) : z_G p l e R s mt args below meth c Q D A sa ad0 n0 nf nL (z_pc cd) ip lv st m := by
  simp only [z_ps] at h
  simp only [z_okI, Bool.and_eq_true, decide_eq_true_eq] at hI
  obtain ⟨⟨hn, hk⟩, hr⟩ := hI
  have hr2 : (raw = .istore k ∧ len = 2) ∨ ∃ i : Fin 4, raw = .istore_n i ∧ (i : Nat) = k ∧ len = 1 := by
    cases raw <;> simp only [Bool.false_eq_true, decide_eq_true_eq] at hr
    · exact Or.inl ⟨by rw [hr.2], hr.1⟩
    · exact Or.inr ⟨_, rfl, hr.2, hr.1⟩
  split at h
  · exact zs_istore C hdec hn hk hr2 h
  · exact h.elim
theorem zq_lstore (C : z_Cx p s mt args meth c own cc nL ini rt) (En : z_En sa sv A s s.heap) (hA : ∀ q, s.heap.size ≤ q → A q) (hR : z_Rm R n0 nf) {d : Nat} (hRf : d + 9 ≤ R.frames) (hRl : 60 * d + 460 ≤ R.locals) (hWD : z_WD) {o : zO} (hO : z_OS l d o) {sc : Option (Nat × (Nat → Int32))} (hsc : ∀ L xs, sc = some (L, xs) → va_X (sa 0) L xs s s.heap ∧ sa 0 < s.heap.size ∧ ¬ A (sa 0)) {ip pl len : Nat} {raw : Instr} (hdec : decode cc (z_pc cd ip) = .ok (raw, len)) {Rt : Option Value → zM → Prop}
    {lv : zL} {st : List Value} {m : zM} {k : Nat} (hI : z_okI own nL ini rt cd ip (z_pc cd ip) pl (.lstore k) raw len = true) (h : z_ps sc o (.lstore k) lv st m False (fun lv st m => z_G p l e R s mt args below meth c Q D A sa ad0 n0 nf nL (z_pc cd) (ip + 1) lv st m) (fun t lv st m => z_G p l e R s mt args below meth c Q D A sa ad0 n0 nf nL (z_pc cd) t lv st m) Rt) : z_G p l e R s mt args below meth c Q D A sa ad0 n0 nf nL (z_pc cd) ip lv st m := by
  simp only [z_ps] at h
  simp only [z_okI, Bool.and_eq_true, decide_eq_true_eq] at hI
  obtain ⟨⟨hn, hk⟩, hr⟩ := hI
  have hr2 : (raw = .lstore k ∧ len = 2) ∨ ∃ i : Fin 4, raw = .lstore_n i ∧ (i : Nat) = k ∧ len = 1 := by
    cases raw <;> simp only [Bool.false_eq_true, decide_eq_true_eq] at hr
    · exact Or.inl ⟨by rw [hr.2], hr.1⟩
    · exact Or.inr ⟨_, rfl, hr.2, hr.1⟩
  split at h
  · exact zs_lstore C hdec hn hk hr2 h
  · exact h.elim
theorem zq_astore (C : z_Cx p s mt args meth c own cc nL ini rt) (En : z_En sa sv A s s.heap) (hA : ∀ q, s.heap.size ≤ q → A q) (hR : z_Rm R n0 nf) {d : Nat} (hRf : d + 9 ≤ R.frames) (hRl : 60 * d + 460 ≤ R.locals) (hWD : z_WD) {o : zO} (hO : z_OS l d o) {sc : Option (Nat × (Nat → Int32))} (hsc : ∀ L xs, sc = some (L, xs) → va_X (sa 0) L xs s s.heap ∧ sa 0 < s.heap.size ∧ ¬ A (sa 0)) {ip pl len : Nat} {raw : Instr} (hdec : decode cc (z_pc cd ip) = .ok (raw, len)) {Rt : Option Value → zM → Prop}
    {lv : zL} {st : List Value} {m : zM} {k : Nat} (hI : z_okI own nL ini rt cd ip (z_pc cd ip) pl (.astore k) raw len = true) (h : z_ps sc o (.astore k) lv st m False (fun lv st m => z_G p l e R s mt args below meth c Q D A sa ad0 n0 nf nL (z_pc cd) (ip + 1) lv st m) (fun t lv st m => z_G p l e R s mt args below meth c Q D A sa ad0 n0 nf nL (z_pc cd) t lv st m) Rt) : z_G p l e R s mt args below meth c Q D A sa ad0 n0 nf nL (z_pc cd) ip lv st m := by
  simp only [z_ps] at h
  simp only [z_okI, Bool.and_eq_true, decide_eq_true_eq] at hI
  obtain ⟨⟨hn, hk⟩, hr⟩ := hI
  have hr2 : (raw = .astore k ∧ len = 2) ∨ ∃ i : Fin 4, raw = .astore_n i ∧ (i : Nat) = k ∧ len = 1 := by
    cases raw <;> simp only [Bool.false_eq_true, decide_eq_true_eq] at hr
    · exact Or.inl ⟨by rw [hr.2], hr.1⟩
    · exact Or.inr ⟨_, rfl, hr.2, hr.1⟩
  split at h
  · exact zs_astore C hdec hn hk hr2 h
  · exact zs_astoreN C hdec hn hk hr2 h
  · exact h.elim
theorem zq_iinc (C : z_Cx p s mt args meth c own cc nL ini rt) (En : z_En sa sv A s s.heap) (hA : ∀ q, s.heap.size ≤ q → A q) (hR : z_Rm R n0 nf) {d : Nat} (hRf : d + 9 ≤ R.frames) (hRl : 60 * d + 460 ≤ R.locals) (hWD : z_WD) {o : zO} (hO : z_OS l d o) {sc : Option (Nat × (Nat → Int32))} (hsc : ∀ L xs, sc = some (L, xs) → va_X (sa 0) L xs s s.heap ∧ sa 0 < s.heap.size ∧ ¬ A (sa 0)) {ip pl len : Nat} {raw : Instr} (hdec : decode cc (z_pc cd ip) = .ok (raw, len)) {Rt : Option Value → zM → Prop}
    {lv : zL} {st : List Value} {m : zM} {k : Nat} {n : Int} (hI : z_okI own nL ini rt cd ip (z_pc cd ip) pl (.iinc k n) raw len = true) (h : z_ps sc o (.iinc k n) lv st m False (fun lv st m => z_G p l e R s mt args below meth c Q D A sa ad0 n0 nf nL (z_pc cd) (ip + 1) lv st m) (fun t lv st m => z_G p l e R s mt args below meth c Q D A sa ad0 n0 nf nL (z_pc cd) t lv st m) Rt) : z_G p l e R s mt args below meth c Q D A sa ad0 n0 nf nL (z_pc cd) ip lv st m := by
  obtain ⟨rfl, rfl, hn, hk⟩ := of_decide_eq_true hI
  simp only [z_ps] at h
  split at h
  · rename_i hx
    exact zs_iinc C hdec hn hk hx h
  · exact h.elim
theorem zq_pop (C : z_Cx p s mt args meth c own cc nL ini rt) (En : z_En sa sv A s s.heap) (hA : ∀ q, s.heap.size ≤ q → A q) (hR : z_Rm R n0 nf) {d : Nat} (hRf : d + 9 ≤ R.frames) (hRl : 60 * d + 460 ≤ R.locals) (hWD : z_WD) {o : zO} (hO : z_OS l d o) {sc : Option (Nat × (Nat → Int32))} (hsc : ∀ L xs, sc = some (L, xs) → va_X (sa 0) L xs s s.heap ∧ sa 0 < s.heap.size ∧ ¬ A (sa 0)) {ip pl len : Nat} {raw : Instr} (hdec : decode cc (z_pc cd ip) = .ok (raw, len)) {Rt : Option Value → zM → Prop}
    {lv : zL} {st : List Value} {m : zM}  (hI : z_okI own nL ini rt cd ip (z_pc cd ip) pl (.pop) raw len = true) (h : z_ps sc o (.pop) lv st m False (fun lv st m => z_G p l e R s mt args below meth c Q D A sa ad0 n0 nf nL (z_pc cd) (ip + 1) lv st m) (fun t lv st m => z_G p l e R s mt args below meth c Q D A sa ad0 n0 nf nL (z_pc cd) t lv st m) Rt) : z_G p l e R s mt args below meth c Q D A sa ad0 n0 nf nL (z_pc cd) ip lv st m := by
  obtain ⟨rfl, rfl, hn⟩ := of_decide_eq_true hI
  simp only [z_ps] at h
  split at h
  · rename_i k r
    cases hb : (z_cs r).ble 8 with
    | false => rw [hb] at h; exact h.elim
    | true =>
      rw [hb] at h
      exact zs_popv C rfl hdec hn h
  · exact h.elim
theorem zq_pop2 (C : z_Cx p s mt args meth c own cc nL ini rt) (En : z_En sa sv A s s.heap) (hA : ∀ q, s.heap.size ≤ q → A q) (hR : z_Rm R n0 nf) {d : Nat} (hRf : d + 9 ≤ R.frames) (hRl : 60 * d + 460 ≤ R.locals) (hWD : z_WD) {o : zO} (hO : z_OS l d o) {sc : Option (Nat × (Nat → Int32))} (hsc : ∀ L xs, sc = some (L, xs) → va_X (sa 0) L xs s s.heap ∧ sa 0 < s.heap.size ∧ ¬ A (sa 0)) {ip pl len : Nat} {raw : Instr} (hdec : decode cc (z_pc cd ip) = .ok (raw, len)) {Rt : Option Value → zM → Prop}
    {lv : zL} {st : List Value} {m : zM}  (hI : z_okI own nL ini rt cd ip (z_pc cd ip) pl (.pop2) raw len = true) (h : z_ps sc o (.pop2) lv st m False (fun lv st m => z_G p l e R s mt args below meth c Q D A sa ad0 n0 nf nL (z_pc cd) (ip + 1) lv st m) (fun t lv st m => z_G p l e R s mt args below meth c Q D A sa ad0 n0 nf nL (z_pc cd) t lv st m) Rt) : z_G p l e R s mt args below meth c Q D A sa ad0 n0 nf nL (z_pc cd) ip lv st m := by
  simp only [z_ps] at h
  simp only [z_okI, Bool.and_eq_true, decide_eq_true_eq] at hI
  obtain ⟨⟨rfl, hn⟩, hr⟩ := hI
  cases raw <;> simp only [Bool.false_eq_true] at hr
  split at h
  · rename_i k r
    cases hb : (z_cs r).ble 8 with
    | false => rw [hb] at h; exact h.elim
    | true =>
      rw [hb] at h
      exact zs_oinit C hR (Nat.ble_eq.mp hb) hdec hn (z_word hr) h
  · exact h.elim
theorem zq_if_icmp (C : z_Cx p s mt args meth c own cc nL ini rt) (En : z_En sa sv A s s.heap) (hA : ∀ q, s.heap.size ≤ q → A q) (hR : z_Rm R n0 nf) {d : Nat} (hRf : d + 9 ≤ R.frames) (hRl : 60 * d + 460 ≤ R.locals) (hWD : z_WD) {o : zO} (hO : z_OS l d o) {sc : Option (Nat × (Nat → Int32))} (hsc : ∀ L xs, sc = some (L, xs) → va_X (sa 0) L xs s s.heap ∧ sa 0 < s.heap.size ∧ ¬ A (sa 0)) {ip pl len : Nat} {raw : Instr} (hdec : decode cc (z_pc cd ip) = .ok (raw, len)) {Rt : Option Value → zM → Prop}
    {lv : zL} {st : List Value} {m : zM} {cn : ClassFile.Cond} {t : Int} (hI : z_okI own nL ini rt cd ip (z_pc cd ip) pl (.if_icmp cn t) raw len = true) (h : z_ps sc o (.if_icmp cn t) lv st m False (fun lv st m => z_G p l e R s mt args below meth c Q D A sa ad0 n0 nf nL (z_pc cd) (ip + 1) lv st m) (fun t lv st m => z_G p l e R s mt args below meth c Q D A sa ad0 n0 nf nL (z_pc cd) t lv st m) Rt) : z_G p l e R s mt args below meth c Q D A sa ad0 n0 nf nL (z_pc cd) ip lv st m := by
  simp only [z_ps] at h
  simp only [z_okI, Bool.and_eq_true, decide_eq_true_eq] at hI
  obtain ⟨⟨rfl, hn⟩, hr⟩ := hI
  cases raw <;> simp only [Bool.false_eq_true, Bool.and_eq_true, decide_eq_true_eq] at hr
  obtain ⟨hcn, hj⟩ := hr
  split at h
  · cases cn
    · subst hcn; exact zs_icmp_eq C hdec hj hn h
    · subst hcn; exact zs_icmp_ne C hdec hj hn h
    · subst hcn; exact zs_icmp_lt C hdec hj hn h
    · subst hcn; exact zs_icmp_ge C hdec hj hn h
    · subst hcn; exact zs_icmp_gt C hdec hj hn h
    · subst hcn; exact zs_icmp_le C hdec hj hn h
  · exact h.elim
theorem zq_ifCond (C : z_Cx p s mt args meth c own cc nL ini rt) (En : z_En sa sv A s s.heap) (hA : ∀ q, s.heap.size ≤ q → A q) (hR : z_Rm R n0 nf) {d : Nat} (hRf : d + 9 ≤ R.frames) (hRl : 60 * d + 460 ≤ R.locals) (hWD : z_WD) {o : zO} (hO : z_OS l d o) {sc : Option (Nat × (Nat → Int32))} (hsc : ∀ L xs, sc = some (L, xs) → va_X (sa 0) L xs s s.heap ∧ sa 0 < s.heap.size ∧ ¬ A (sa 0)) {ip pl len : Nat} {raw : Instr} (hdec : decode cc (z_pc cd ip) = .ok (raw, len)) {Rt : Option Value → zM → Prop}
    {lv : zL} {st : List Value} {m : zM} {cn : ClassFile.Cond} {t : Int} (hI : z_okI own nL ini rt cd ip (z_pc cd ip) pl (.ifCond cn t) raw len = true) (h : z_ps sc o (.ifCond cn t) lv st m False (fun lv st m => z_G p l e R s mt args below meth c Q D A sa ad0 n0 nf nL (z_pc cd) (ip + 1) lv st m) (fun t lv st m => z_G p l e R s mt args below meth c Q D A sa ad0 n0 nf nL (z_pc cd) t lv st m) Rt) : z_G p l e R s mt args below meth c Q D A sa ad0 n0 nf nL (z_pc cd) ip lv st m := by
  simp only [z_ps] at h
  simp only [z_okI, Bool.and_eq_true, decide_eq_true_eq] at hI
  obtain ⟨⟨rfl, hn⟩, hr⟩ := hI
  cases raw <;> simp only [Bool.false_eq_true, Bool.and_eq_true, decide_eq_true_eq] at hr
  obtain ⟨hcn, hj⟩ := hr
  split at h
  · cases cn
    · subst hcn; exact zs_if_eq C hdec hj hn h
    · subst hcn; exact zs_if_ne C hdec hj hn h
    · subst hcn; exact zs_if_lt C hdec hj hn h
    · subst hcn; exact zs_if_ge C hdec hj hn h
    · subst hcn; exact zs_if_gt C hdec hj hn h
    · subst hcn; exact zs_if_le C hdec hj hn h
  · exact h.elim
theorem zq_ifnonnull (C : z_Cx p s mt args meth c own cc nL ini rt) (En : z_En sa sv A s s.heap) (hA : ∀ q, s.heap.size ≤ q → A q) (hR : z_Rm R n0 nf) {d : Nat} (hRf : d + 9 ≤ R.frames) (hRl : 60 * d + 460 ≤ R.locals) (hWD : z_WD) {o : zO} (hO : z_OS l d o) {sc : Option (Nat × (Nat → Int32))} (hsc : ∀ L xs, sc = some (L, xs) → va_X (sa 0) L xs s s.heap ∧ sa 0 < s.heap.size ∧ ¬ A (sa 0)) {ip pl len : Nat} {raw : Instr} (hdec : decode cc (z_pc cd ip) = .ok (raw, len)) {Rt : Option Value → zM → Prop}
    {lv : zL} {st : List Value} {m : zM} {t : Int} (hI : z_okI own nL ini rt cd ip (z_pc cd ip) pl (.ifnonnull t) raw len = true) (h : z_ps sc o (.ifnonnull t) lv st m False (fun lv st m => z_G p l e R s mt args below meth c Q D A sa ad0 n0 nf nL (z_pc cd) (ip + 1) lv st m) (fun t lv st m => z_G p l e R s mt args below meth c Q D A sa ad0 n0 nf nL (z_pc cd) t lv st m) Rt) : z_G p l e R s mt args below meth c Q D A sa ad0 n0 nf nL (z_pc cd) ip lv st m := by
  simp only [z_ps] at h
  simp only [z_okI, Bool.and_eq_true, decide_eq_true_eq] at hI
  obtain ⟨⟨rfl, hn⟩, hr⟩ := hI
  cases raw <;> simp only [Bool.false_eq_true] at hr
  split at h
  · exact zs_ifnn C hdec hr h
  · exact zs_ifnnN C hdec hn h
  · exact h.elim
theorem zq_goto (C : z_Cx p s mt args meth c own cc nL ini rt) (En : z_En sa sv A s s.heap) (hA : ∀ q, s.heap.size ≤ q → A q) (hR : z_Rm R n0 nf) {d : Nat} (hRf : d + 9 ≤ R.frames) (hRl : 60 * d + 460 ≤ R.locals) (hWD : z_WD) {o : zO} (hO : z_OS l d o) {sc : Option (Nat × (Nat → Int32))} (hsc : ∀ L xs, sc = some (L, xs) → va_X (sa 0) L xs s s.heap ∧ sa 0 < s.heap.size ∧ ¬ A (sa 0)) {ip pl len : Nat} {raw : Instr} (hdec : decode cc (z_pc cd ip) = .ok (raw, len)) {Rt : Option Value → zM → Prop}
    {lv : zL} {st : List Value} {m : zM} {t : Int} (hI : z_okI own nL ini rt cd ip (z_pc cd ip) pl (.goto t) raw len = true) (h : z_ps sc o (.goto t) lv st m False (fun lv st m => z_G p l e R s mt args below meth c Q D A sa ad0 n0 nf nL (z_pc cd) (ip + 1) lv st m) (fun t lv st m => z_G p l e R s mt args below meth c Q D A sa ad0 n0 nf nL (z_pc cd) t lv st m) Rt) : z_G p l e R s mt args below meth c Q D A sa ad0 n0 nf nL (z_pc cd) ip lv st m := by
  simp only [z_ps] at h
  simp only [z_okI, Bool.and_eq_true, decide_eq_true_eq] at hI
  obtain ⟨rfl, hr⟩ := hI
  cases raw <;> simp only [Bool.false_eq_true] at hr
  exact zs_goto C hdec hr h
theorem zq_tableswitch (C : z_Cx p s mt args meth c own cc nL ini rt) (En : z_En sa sv A s s.heap) (hA : ∀ q, s.heap.size ≤ q → A q) (hR : z_Rm R n0 nf) {d : Nat} (hRf : d + 9 ≤ R.frames) (hRl : 60 * d + 460 ≤ R.locals) (hWD : z_WD) {o : zO} (hO : z_OS l d o) {sc : Option (Nat × (Nat → Int32))} (hsc : ∀ L xs, sc = some (L, xs) → va_X (sa 0) L xs s s.heap ∧ sa 0 < s.heap.size ∧ ¬ A (sa 0)) {ip pl len : Nat} {raw : Instr} (hdec : decode cc (z_pc cd ip) = .ok (raw, len)) {Rt : Option Value → zM → Prop}
    {lv : zL} {st : List Value} {m : zM} {dd lo hi : Int} {ts : Array Int} (hI : z_okI own nL ini rt cd ip (z_pc cd ip) pl (.tableswitch dd lo hi ts) raw len = true) (h : z_ps sc o (.tableswitch dd lo hi ts) lv st m False (fun lv st m => z_G p l e R s mt args below meth c Q D A sa ad0 n0 nf nL (z_pc cd) (ip + 1) lv st m) (fun t lv st m => z_G p l e R s mt args below meth c Q D A sa ad0 n0 nf nL (z_pc cd) t lv st m) Rt) : z_G p l e R s mt args below meth c Q D A sa ad0 n0 nf nL (z_pc cd) ip lv st m := by
  simp only [z_ps] at h
  simp only [z_okI] at hI
  cases raw <;> simp only [Bool.false_eq_true, Bool.and_eq_true, decide_eq_true_eq, List.all_eq_true, List.mem_range] at hI
  obtain ⟨⟨⟨rfl, rfl, hsz, hhi⟩, hj⟩, hall⟩ := hI
  split at h
  · refine zs_table C hdec hsz hhi hj (fun i hi a b ha hb => ?_) h
    have := hall i hi
    rw [ha, hb] at this
    exact this
  · exact h.elim
end ZS
end
section
/-! ONE INSTRUCTION, whichever it is: fields, arrays, calls, ends -/
section ZS
variable {p : Program} {l : Launch} {e : Env} {R : Room} {s : State} {mt : MethodId} {args : Array Value} {below : List Frame} {meth : Method} {c : Code} {Q : State → Prop} {D : va_G} {A : Nat → Prop} {sa sv ad0 : Nat → Nat} {n0 nf nL : Nat} {cd : List zI} {own : String} {cc : ByteArray} {ini : Bool} {rt : Option FieldType}

theorem zq_getfield (C : z_Cx p s mt args meth c own cc nL ini rt) (En : z_En sa sv A s s.heap) (hA : ∀ q, s.heap.size ≤ q → A q) (hR : z_Rm R n0 nf) {d : Nat} (hRf : d + 9 ≤ R.frames) (hRl : 60 * d + 460 ≤ R.locals) (hWD : z_WD) {o : zO} (hO : z_OS l d o) {sc : Option (Nat × (Nat → Int32))} (hsc : ∀ L xs, sc = some (L, xs) → va_X (sa 0) L xs s s.heap ∧ sa 0 < s.heap.size ∧ ¬ A (sa 0)) {ip pl len : Nat} {raw : Instr} (hdec : decode cc (z_pc cd ip) = .ok (raw, len)) {Rt : Option Value → zM → Prop}
    {lv : zL} {st : List Value} {m : zM} {q : Nat} (hI : z_okI own nL ini rt cd ip (z_pc cd ip) pl (.getfield q) raw len = true) (h : z_ps sc o (.getfield q) lv st m False (fun lv st m => z_G p l e R s mt args below meth c Q D A sa ad0 n0 nf nL (z_pc cd) (ip + 1) lv st m) (fun t lv st m => z_G p l e R s mt args below meth c Q D A sa ad0 n0 nf nL (z_pc cd) t lv st m) Rt) : z_G p l e R s mt args below meth c Q D A sa ad0 n0 nf nL (z_pc cd) ip lv st m := by
  simp only [z_ps] at h
  simp only [z_okI, Bool.and_eq_true, decide_eq_true_eq] at hI
  obtain ⟨⟨rfl, hn⟩, hr⟩ := hI
  cases raw <;> simp only [Bool.false_eq_true, Bool.and_eq_true] at hr
  obtain ⟨hf, hkd⟩ := hr
  split at h
  · rename_i k r
    cases hb : ((z_tk k).beq 0 && (z_tn k).beq (q / 4096)) with
    | false => rw [hb] at h; exact h.elim
    | true =>
      rw [hb] at h
      simp only [Bool.and_eq_true, Nat.beq_eq] at hb
      simp only [cond_true] at h
      generalize hq4 : q % 4 = q4 at h hkd
      generalize hfk : z_fk (q / 4096) (q / 4 % 1024) = fk at hkd
      match q4, fk, hkd with
      | 0, 0, _ => exact zs_getf (v := .int (m.2.2.1 k (q / 4 % 1024))) C hdec hn hf hb.1 hb.2 (fun ad hw => by rw [hfk]; rfl) (fun _ => trivial) h
      | 0, 3, _ => exact zs_getf (v := .int (m.2.2.1 k (q / 4 % 1024))) C hdec hn hf hb.1 hb.2 (fun ad hw => by rw [hfk]; rfl) (fun _ => trivial) h
      | 1, 1, _ => exact zs_getf (v := .long (m.2.2.2 k (q / 4 % 1024))) C hdec hn hf hb.1 hb.2 (fun ad hw => by rw [hfk]; rfl) (fun _ => trivial) h
      | 2, 2, _ => exact zs_getf C hdec hn hf hb.1 hb.2 (fun ad hw => by rw [hfk]; exact z_tr_rv hw _ _) (fun hw => z_ok_rv hw _ _) h
  · exact h.elim
theorem zq_putfield (C : z_Cx p s mt args meth c own cc nL ini rt) (En : z_En sa sv A s s.heap) (hA : ∀ q, s.heap.size ≤ q → A q) (hR : z_Rm R n0 nf) {d : Nat} (hRf : d + 9 ≤ R.frames) (hRl : 60 * d + 460 ≤ R.locals) (hWD : z_WD) {o : zO} (hO : z_OS l d o) {sc : Option (Nat × (Nat → Int32))} (hsc : ∀ L xs, sc = some (L, xs) → va_X (sa 0) L xs s s.heap ∧ sa 0 < s.heap.size ∧ ¬ A (sa 0)) {ip pl len : Nat} {raw : Instr} (hdec : decode cc (z_pc cd ip) = .ok (raw, len)) {Rt : Option Value → zM → Prop}
    {lv : zL} {st : List Value} {m : zM} {q : Nat} (hI : z_okI own nL ini rt cd ip (z_pc cd ip) pl (.putfield q) raw len = true) (h : z_ps sc o (.putfield q) lv st m False (fun lv st m => z_G p l e R s mt args below meth c Q D A sa ad0 n0 nf nL (z_pc cd) (ip + 1) lv st m) (fun t lv st m => z_G p l e R s mt args below meth c Q D A sa ad0 n0 nf nL (z_pc cd) t lv st m) Rt) : z_G p l e R s mt args below meth c Q D A sa ad0 n0 nf nL (z_pc cd) ip lv st m := by
  simp only [z_ps] at h
  simp only [z_okI, Bool.and_eq_true, decide_eq_true_eq] at hI
  obtain ⟨⟨rfl, hn⟩, hr⟩ := hI
  cases raw <;> simp only [Bool.false_eq_true, Bool.and_eq_true] at hr
  obtain ⟨⟨hf, hfin⟩, hkd⟩ := hr
  split at h
  · rename_i x k r
    cases hb : ((z_tk k).beq 0 && (z_tn k).beq (q / 4096)) with
    | false => rw [hb] at h; exact h.elim
    | true =>
      rw [hb] at h
      simp only [Bool.and_eq_true, Nat.beq_eq] at hb
      simp only [cond_true] at h
      generalize hq4 : q % 4 = q4 at h hkd
      generalize hfk : z_fk (q / 4096) (q / 4 % 1024) = fk at hkd
      match q4, fk, hkd with
      | 0, 0, hkd => exact zs_puti C hdec hn hf hfin hb.1 hb.2 (Or.inl ⟨hfk, of_decide_eq_true hkd⟩) h
      | 3, 3, hkd =>
        by_cases hx : x = 0 ∨ x = 1
        · rw [if_pos hx] at h
          exact zs_puti C hdec hn hf hfin hb.1 hb.2 (Or.inr ⟨hfk, of_decide_eq_true hkd, hx⟩) h
        · rw [if_neg hx] at h; exact h.elim
      | 1, 1, hkd => exact h.elim
      | 2, 2, hkd => exact h.elim
  · rename_i x k r
    cases hb : ((z_tk k).beq 0 && (z_tn k).beq (q / 4096)) with
    | false => rw [hb] at h; exact h.elim
    | true =>
      rw [hb] at h
      simp only [Bool.and_eq_true, Nat.beq_eq] at hb
      simp only [cond_true] at h
      generalize hq4 : q % 4 = q4 at h hkd
      generalize hfk : z_fk (q / 4096) (q / 4 % 1024) = fk at hkd
      match q4, fk, hkd with
      | 0, 0, hkd => exact h.elim
      | 3, 3, hkd => exact h.elim
      | 1, 1, hkd => exact zs_putl C hdec hn hf hfin hb.1 hb.2 hfk (of_decide_eq_true hkd) h
      | 2, 2, hkd => exact h.elim
  · rename_i x k r
    cases hb : ((z_tk k).beq 0 && (z_tn k).beq (q / 4096) && x.blt z_sb) with
    | false => rw [hb] at h; exact h.elim
    | true =>
      rw [hb] at h
      simp only [Bool.and_eq_true, Nat.beq_eq, Nat.blt_eq] at hb
      simp only [cond_true] at h
      generalize hq4 : q % 4 = q4 at h hkd
      generalize hfk : z_fk (q / 4096) (q / 4 % 1024) = fk at hkd
      match q4, fk, hkd with
      | 0, 0, hkd => exact h.elim
      | 3, 3, hkd => exact h.elim
      | 1, 1, hkd => exact h.elim
      | 2, 2, hkd => exact zs_putr C hdec hn hf hfin hb.1.1 hb.1.2 hfk hkd hb.2 h
  · exact h.elim
theorem zq_arraylength (C : z_Cx p s mt args meth c own cc nL ini rt) (En : z_En sa sv A s s.heap) (hA : ∀ q, s.heap.size ≤ q → A q) (hR : z_Rm R n0 nf) {d : Nat} (hRf : d + 9 ≤ R.frames) (hRl : 60 * d + 460 ≤ R.locals) (hWD : z_WD) {o : zO} (hO : z_OS l d o) {sc : Option (Nat × (Nat → Int32))} (hsc : ∀ L xs, sc = some (L, xs) → va_X (sa 0) L xs s s.heap ∧ sa 0 < s.heap.size ∧ ¬ A (sa 0)) {ip pl len : Nat} {raw : Instr} (hdec : decode cc (z_pc cd ip) = .ok (raw, len)) {Rt : Option Value → zM → Prop}
    {lv : zL} {st : List Value} {m : zM}  (hI : z_okI own nL ini rt cd ip (z_pc cd ip) pl (.arraylength) raw len = true) (h : z_ps sc o (.arraylength) lv st m False (fun lv st m => z_G p l e R s mt args below meth c Q D A sa ad0 n0 nf nL (z_pc cd) (ip + 1) lv st m) (fun t lv st m => z_G p l e R s mt args below meth c Q D A sa ad0 n0 nf nL (z_pc cd) t lv st m) Rt) : z_G p l e R s mt args below meth c Q D A sa ad0 n0 nf nL (z_pc cd) ip lv st m := by
  obtain ⟨rfl, rfl, hn⟩ := of_decide_eq_true hI
  simp only [z_ps] at h
  split at h
  · rename_i k r
    cases hb : k.beq z_sb with
    | true =>
      rw [hb] at h
      have hk := Nat.beq_eq.mp hb
      subst hk
      match sc, hsc, h with
      | some (L, xs), hsc, h =>
        obtain ⟨h1, h2, h3⟩ := hsc L xs rfl
        exact zs_slen C h1 h2 h3 hdec hn h
      | none, hsc, h => exact h.elim
    | false =>
      rw [hb] at h
      cases hb2 : (Nat.blt 0 (z_tk k) && (z_tk k).blt 6) with
      | false => rw [hb2] at h; exact h.elim
      | true =>
        rw [hb2] at h
        simp only [Bool.and_eq_true, Nat.blt_eq] at hb2
        exact zs_alen C hdec hn hb2 h
  · exact h.elim
theorem zq_iaload (C : z_Cx p s mt args meth c own cc nL ini rt) (En : z_En sa sv A s s.heap) (hA : ∀ q, s.heap.size ≤ q → A q) (hR : z_Rm R n0 nf) {d : Nat} (hRf : d + 9 ≤ R.frames) (hRl : 60 * d + 460 ≤ R.locals) (hWD : z_WD) {o : zO} (hO : z_OS l d o) {sc : Option (Nat × (Nat → Int32))} (hsc : ∀ L xs, sc = some (L, xs) → va_X (sa 0) L xs s s.heap ∧ sa 0 < s.heap.size ∧ ¬ A (sa 0)) {ip pl len : Nat} {raw : Instr} (hdec : decode cc (z_pc cd ip) = .ok (raw, len)) {Rt : Option Value → zM → Prop}
    {lv : zL} {st : List Value} {m : zM}  (hI : z_okI own nL ini rt cd ip (z_pc cd ip) pl (.iaload) raw len = true) (h : z_ps sc o (.iaload) lv st m False (fun lv st m => z_G p l e R s mt args below meth c Q D A sa ad0 n0 nf nL (z_pc cd) (ip + 1) lv st m) (fun t lv st m => z_G p l e R s mt args below meth c Q D A sa ad0 n0 nf nL (z_pc cd) t lv st m) Rt) : z_G p l e R s mt args below meth c Q D A sa ad0 n0 nf nL (z_pc cd) ip lv st m := by
  obtain ⟨rfl, rfl, hn⟩ := of_decide_eq_true hI
  simp only [z_ps] at h
  split at h
  · rename_i j k r
    cases hb0 : k.beq z_sb with
    | true =>
      rw [hb0] at h
      have hk := Nat.beq_eq.mp hb0
      subst hk
      match sc, hsc, h with
      | some (L, xs), hsc, h =>
        obtain ⟨h1, h2, h3⟩ := hsc L xs rfl
        by_cases hj : j < 0 ∨ L ≤ j.toNatClampNeg
        · simp only [cond_true, if_pos hj] at h
        · simp only [cond_true, if_neg hj] at h
          exact zs_sld C h1 h2 h3 hj hdec hn h
      | none, hsc, h => exact h.elim
    | false =>
      rw [hb0] at h
      simp only [cond_false] at h
      cases hb : (z_tk k).beq 1 with
      | false => rw [hb] at h; exact h.elim
      | true =>
        rw [hb] at h
        simp only [cond_true] at h
        by_cases hj : j < 0 ∨ z_tn k ≤ j.toNatClampNeg
        · rw [if_pos hj] at h; exact h.elim
        · rw [if_neg hj] at h
          exact zs_iald C hdec hn (Nat.beq_eq.mp hb) hj h
  · exact h.elim
theorem zq_baload (C : z_Cx p s mt args meth c own cc nL ini rt) (En : z_En sa sv A s s.heap) (hA : ∀ q, s.heap.size ≤ q → A q) (hR : z_Rm R n0 nf) {d : Nat} (hRf : d + 9 ≤ R.frames) (hRl : 60 * d + 460 ≤ R.locals) (hWD : z_WD) {o : zO} (hO : z_OS l d o) {sc : Option (Nat × (Nat → Int32))} (hsc : ∀ L xs, sc = some (L, xs) → va_X (sa 0) L xs s s.heap ∧ sa 0 < s.heap.size ∧ ¬ A (sa 0)) {ip pl len : Nat} {raw : Instr} (hdec : decode cc (z_pc cd ip) = .ok (raw, len)) {Rt : Option Value → zM → Prop}
    {lv : zL} {st : List Value} {m : zM}  (hI : z_okI own nL ini rt cd ip (z_pc cd ip) pl (.baload) raw len = true) (h : z_ps sc o (.baload) lv st m False (fun lv st m => z_G p l e R s mt args below meth c Q D A sa ad0 n0 nf nL (z_pc cd) (ip + 1) lv st m) (fun t lv st m => z_G p l e R s mt args below meth c Q D A sa ad0 n0 nf nL (z_pc cd) t lv st m) Rt) : z_G p l e R s mt args below meth c Q D A sa ad0 n0 nf nL (z_pc cd) ip lv st m := by
  obtain ⟨rfl, rfl, hn⟩ := of_decide_eq_true hI
  simp only [z_ps] at h
  split at h
  · rename_i j k r
    cases hb : ((z_tk k).beq 2 || (z_tk k).beq 3) with
    | false => rw [hb] at h; exact h.elim
    | true =>
      rw [hb] at h
      simp only [cond_true] at h
      simp only [Bool.or_eq_true, Nat.beq_eq] at hb
      by_cases hj : j < 0 ∨ z_tn k ≤ j.toNatClampNeg
      · rw [if_pos hj] at h; exact h.elim
      · rw [if_neg hj] at h
        rcases hb with hb | hb
        · exact zs_bald C hdec hn hb hj h
        · exact zs_zald C hdec hn hb hj h
  · exact h.elim
theorem zq_laload (C : z_Cx p s mt args meth c own cc nL ini rt) (En : z_En sa sv A s s.heap) (hA : ∀ q, s.heap.size ≤ q → A q) (hR : z_Rm R n0 nf) {d : Nat} (hRf : d + 9 ≤ R.frames) (hRl : 60 * d + 460 ≤ R.locals) (hWD : z_WD) {o : zO} (hO : z_OS l d o) {sc : Option (Nat × (Nat → Int32))} (hsc : ∀ L xs, sc = some (L, xs) → va_X (sa 0) L xs s s.heap ∧ sa 0 < s.heap.size ∧ ¬ A (sa 0)) {ip pl len : Nat} {raw : Instr} (hdec : decode cc (z_pc cd ip) = .ok (raw, len)) {Rt : Option Value → zM → Prop}
    {lv : zL} {st : List Value} {m : zM}  (hI : z_okI own nL ini rt cd ip (z_pc cd ip) pl (.laload) raw len = true) (h : z_ps sc o (.laload) lv st m False (fun lv st m => z_G p l e R s mt args below meth c Q D A sa ad0 n0 nf nL (z_pc cd) (ip + 1) lv st m) (fun t lv st m => z_G p l e R s mt args below meth c Q D A sa ad0 n0 nf nL (z_pc cd) t lv st m) Rt) : z_G p l e R s mt args below meth c Q D A sa ad0 n0 nf nL (z_pc cd) ip lv st m := by
  obtain ⟨rfl, rfl, hn⟩ := of_decide_eq_true hI
  simp only [z_ps] at h
  split at h
  · rename_i j k r
    cases hb : (z_tk k).beq 4 with
    | false => rw [hb] at h; exact h.elim
    | true =>
      rw [hb] at h
      simp only [cond_true] at h
      by_cases hj : j < 0 ∨ z_tn k ≤ j.toNatClampNeg
      · rw [if_pos hj] at h; exact h.elim
      · rw [if_neg hj] at h
        exact zs_lald C hdec hn (Nat.beq_eq.mp hb) hj h
  · exact h.elim
theorem zq_aaload (C : z_Cx p s mt args meth c own cc nL ini rt) (En : z_En sa sv A s s.heap) (hA : ∀ q, s.heap.size ≤ q → A q) (hR : z_Rm R n0 nf) {d : Nat} (hRf : d + 9 ≤ R.frames) (hRl : 60 * d + 460 ≤ R.locals) (hWD : z_WD) {o : zO} (hO : z_OS l d o) {sc : Option (Nat × (Nat → Int32))} (hsc : ∀ L xs, sc = some (L, xs) → va_X (sa 0) L xs s s.heap ∧ sa 0 < s.heap.size ∧ ¬ A (sa 0)) {ip pl len : Nat} {raw : Instr} (hdec : decode cc (z_pc cd ip) = .ok (raw, len)) {Rt : Option Value → zM → Prop}
    {lv : zL} {st : List Value} {m : zM}  (hI : z_okI own nL ini rt cd ip (z_pc cd ip) pl (.aaload) raw len = true) (h : z_ps sc o (.aaload) lv st m False (fun lv st m => z_G p l e R s mt args below meth c Q D A sa ad0 n0 nf nL (z_pc cd) (ip + 1) lv st m) (fun t lv st m => z_G p l e R s mt args below meth c Q D A sa ad0 n0 nf nL (z_pc cd) t lv st m) Rt) : z_G p l e R s mt args below meth c Q D A sa ad0 n0 nf nL (z_pc cd) ip lv st m := by
  obtain ⟨rfl, rfl, hn⟩ := of_decide_eq_true hI
  simp only [z_ps] at h
  split at h
  · rename_i j k r
    cases hb : (z_tk k).beq 5 with
    | false => rw [hb] at h; exact h.elim
    | true =>
      rw [hb] at h
      simp only [cond_true] at h
      by_cases hj : j < 0 ∨ z_tn k ≤ j.toNatClampNeg
      · rw [if_pos hj] at h; exact h.elim
      · rw [if_neg hj] at h
        exact zs_aald C hdec hn (Nat.beq_eq.mp hb) hj h
  · exact h.elim
theorem zq_iastore (C : z_Cx p s mt args meth c own cc nL ini rt) (En : z_En sa sv A s s.heap) (hA : ∀ q, s.heap.size ≤ q → A q) (hR : z_Rm R n0 nf) {d : Nat} (hRf : d + 9 ≤ R.frames) (hRl : 60 * d + 460 ≤ R.locals) (hWD : z_WD) {o : zO} (hO : z_OS l d o) {sc : Option (Nat × (Nat → Int32))} (hsc : ∀ L xs, sc = some (L, xs) → va_X (sa 0) L xs s s.heap ∧ sa 0 < s.heap.size ∧ ¬ A (sa 0)) {ip pl len : Nat} {raw : Instr} (hdec : decode cc (z_pc cd ip) = .ok (raw, len)) {Rt : Option Value → zM → Prop}
    {lv : zL} {st : List Value} {m : zM}  (hI : z_okI own nL ini rt cd ip (z_pc cd ip) pl (.iastore) raw len = true) (h : z_ps sc o (.iastore) lv st m False (fun lv st m => z_G p l e R s mt args below meth c Q D A sa ad0 n0 nf nL (z_pc cd) (ip + 1) lv st m) (fun t lv st m => z_G p l e R s mt args below meth c Q D A sa ad0 n0 nf nL (z_pc cd) t lv st m) Rt) : z_G p l e R s mt args below meth c Q D A sa ad0 n0 nf nL (z_pc cd) ip lv st m := by
  obtain ⟨rfl, rfl, hn⟩ := of_decide_eq_true hI
  simp only [z_ps] at h
  split at h
  · rename_i x j k r
    cases hb : (z_tk k).beq 1 with
    | false => rw [hb] at h; exact h.elim
    | true =>
      rw [hb] at h
      simp only [cond_true] at h
      by_cases hj : j < 0 ∨ z_tn k ≤ j.toNatClampNeg
      · rw [if_pos hj] at h; exact h.elim
      · rw [if_neg hj] at h
        exact zs_iast C hdec hn (Nat.beq_eq.mp hb) hj h
  · exact h.elim
theorem zq_lastore (C : z_Cx p s mt args meth c own cc nL ini rt) (En : z_En sa sv A s s.heap) (hA : ∀ q, s.heap.size ≤ q → A q) (hR : z_Rm R n0 nf) {d : Nat} (hRf : d + 9 ≤ R.frames) (hRl : 60 * d + 460 ≤ R.locals) (hWD : z_WD) {o : zO} (hO : z_OS l d o) {sc : Option (Nat × (Nat → Int32))} (hsc : ∀ L xs, sc = some (L, xs) → va_X (sa 0) L xs s s.heap ∧ sa 0 < s.heap.size ∧ ¬ A (sa 0)) {ip pl len : Nat} {raw : Instr} (hdec : decode cc (z_pc cd ip) = .ok (raw, len)) {Rt : Option Value → zM → Prop}
    {lv : zL} {st : List Value} {m : zM}  (hI : z_okI own nL ini rt cd ip (z_pc cd ip) pl (.lastore) raw len = true) (h : z_ps sc o (.lastore) lv st m False (fun lv st m => z_G p l e R s mt args below meth c Q D A sa ad0 n0 nf nL (z_pc cd) (ip + 1) lv st m) (fun t lv st m => z_G p l e R s mt args below meth c Q D A sa ad0 n0 nf nL (z_pc cd) t lv st m) Rt) : z_G p l e R s mt args below meth c Q D A sa ad0 n0 nf nL (z_pc cd) ip lv st m := by
  obtain ⟨rfl, rfl, hn⟩ := of_decide_eq_true hI
  simp only [z_ps] at h
  split at h
  · rename_i x j k r
    cases hb : (z_tk k).beq 4 with
    | false => rw [hb] at h; exact h.elim
    | true =>
      rw [hb] at h
      simp only [cond_true] at h
      by_cases hj : j < 0 ∨ z_tn k ≤ j.toNatClampNeg
      · rw [if_pos hj] at h; exact h.elim
      · rw [if_neg hj] at h
        exact zs_last C hdec hn (Nat.beq_eq.mp hb) hj h
  · exact h.elim
theorem zq_bastore (C : z_Cx p s mt args meth c own cc nL ini rt) (En : z_En sa sv A s s.heap) (hA : ∀ q, s.heap.size ≤ q → A q) (hR : z_Rm R n0 nf) {d : Nat} (hRf : d + 9 ≤ R.frames) (hRl : 60 * d + 460 ≤ R.locals) (hWD : z_WD) {o : zO} (hO : z_OS l d o) {sc : Option (Nat × (Nat → Int32))} (hsc : ∀ L xs, sc = some (L, xs) → va_X (sa 0) L xs s s.heap ∧ sa 0 < s.heap.size ∧ ¬ A (sa 0)) {ip pl len : Nat} {raw : Instr} (hdec : decode cc (z_pc cd ip) = .ok (raw, len)) {Rt : Option Value → zM → Prop}
    {lv : zL} {st : List Value} {m : zM}  (hI : z_okI own nL ini rt cd ip (z_pc cd ip) pl (.bastore) raw len = true) (h : z_ps sc o (.bastore) lv st m False (fun lv st m => z_G p l e R s mt args below meth c Q D A sa ad0 n0 nf nL (z_pc cd) (ip + 1) lv st m) (fun t lv st m => z_G p l e R s mt args below meth c Q D A sa ad0 n0 nf nL (z_pc cd) t lv st m) Rt) : z_G p l e R s mt args below meth c Q D A sa ad0 n0 nf nL (z_pc cd) ip lv st m := by
  obtain ⟨rfl, rfl, hn⟩ := of_decide_eq_true hI
  simp only [z_ps] at h
  split at h
  · rename_i x j k r
    cases hb2 : (z_tk k).beq 2 with
    | true =>
      rw [hb2] at h
      simp only [cond_true] at h
      by_cases hj : j < 0 ∨ z_tn k ≤ j.toNatClampNeg
      · rw [if_pos hj] at h; exact h.elim
      · rw [if_neg hj] at h
        exact zs_bast C hdec hn (Nat.beq_eq.mp hb2) hj h
    | false =>
      rw [hb2] at h
      simp only [cond_false] at h
      cases hb : (z_tk k).beq 3 with
      | false => rw [hb] at h; exact h.elim
      | true =>
        rw [hb] at h
        simp only [cond_true] at h
        by_cases hj : j < 0 ∨ z_tn k ≤ j.toNatClampNeg
        · rw [if_pos hj] at h; exact h.elim
        · rw [if_neg hj] at h
          exact zs_zast C hdec hn (Nat.beq_eq.mp hb) hj h
  · exact h.elim
theorem zq_aastore (C : z_Cx p s mt args meth c own cc nL ini rt) (En : z_En sa sv A s s.heap) (hA : ∀ q, s.heap.size ≤ q → A q) (hR : z_Rm R n0 nf) {d : Nat} (hRf : d + 9 ≤ R.frames) (hRl : 60 * d + 460 ≤ R.locals) (hWD : z_WD) {o : zO} (hO : z_OS l d o) {sc : Option (Nat × (Nat → Int32))} (hsc : ∀ L xs, sc = some (L, xs) → va_X (sa 0) L xs s s.heap ∧ sa 0 < s.heap.size ∧ ¬ A (sa 0)) {ip pl len : Nat} {raw : Instr} (hdec : decode cc (z_pc cd ip) = .ok (raw, len)) {Rt : Option Value → zM → Prop}
    {lv : zL} {st : List Value} {m : zM}  (hI : z_okI own nL ini rt cd ip (z_pc cd ip) pl (.aastore) raw len = true) (h : z_ps sc o (.aastore) lv st m False (fun lv st m => z_G p l e R s mt args below meth c Q D A sa ad0 n0 nf nL (z_pc cd) (ip + 1) lv st m) (fun t lv st m => z_G p l e R s mt args below meth c Q D A sa ad0 n0 nf nL (z_pc cd) t lv st m) Rt) : z_G p l e R s mt args below meth c Q D A sa ad0 n0 nf nL (z_pc cd) ip lv st m := by
  obtain ⟨rfl, rfl, hn⟩ := of_decide_eq_true hI
  simp only [z_ps] at h
  split at h
  · rename_i x j k r
    cases hb : ((z_tk k).beq 5 && x.blt z_sb && (z_tk x).beq 0 && (z_tn x).beq z_hc) with
    | false => rw [hb] at h; exact h.elim
    | true =>
      rw [hb] at h
      simp only [cond_true] at h
      simp only [Bool.and_eq_true, Nat.beq_eq] at hb
      by_cases hj : j < 0 ∨ z_tn k ≤ j.toNatClampNeg
      · rw [if_pos hj] at h; exact h.elim
      · rw [if_neg hj] at h
        exact zs_aast C hdec hn hb.1.1.1 hb.1.2 hb.2 hj h
  · exact h.elim
theorem zq_new (C : z_Cx p s mt args meth c own cc nL ini rt) (En : z_En sa sv A s s.heap) (hA : ∀ q, s.heap.size ≤ q → A q) (hR : z_Rm R n0 nf) {d : Nat} (hRf : d + 9 ≤ R.frames) (hRl : 60 * d + 460 ≤ R.locals) (hWD : z_WD) {o : zO} (hO : z_OS l d o) {sc : Option (Nat × (Nat → Int32))} (hsc : ∀ L xs, sc = some (L, xs) → va_X (sa 0) L xs s s.heap ∧ sa 0 < s.heap.size ∧ ¬ A (sa 0)) {ip pl len : Nat} {raw : Instr} (hdec : decode cc (z_pc cd ip) = .ok (raw, len)) {Rt : Option Value → zM → Prop}
    {lv : zL} {st : List Value} {m : zM} {ci : Nat} (hI : z_okI own nL ini rt cd ip (z_pc cd ip) pl (.new ci) raw len = true) (h : z_ps sc o (.new ci) lv st m False (fun lv st m => z_G p l e R s mt args below meth c Q D A sa ad0 n0 nf nL (z_pc cd) (ip + 1) lv st m) (fun t lv st m => z_G p l e R s mt args below meth c Q D A sa ad0 n0 nf nL (z_pc cd) t lv st m) Rt) : z_G p l e R s mt args below meth c Q D A sa ad0 n0 nf nL (z_pc cd) ip lv st m := by
  simp only [z_ps] at h
  simp only [z_okI, Bool.and_eq_true, decide_eq_true_eq] at hI
  obtain ⟨⟨rfl, hn⟩, hr⟩ := hI
  cases hb : ((z_tk m.1).beq 0 && (z_tn m.1).beq ci) with
  | false => rw [hb] at h; exact h.elim
  | true =>
    rw [hb] at h
    simp only [Bool.and_eq_true, Nat.beq_eq] at hb
    cases hc : zC[ci]? with
    | none => rw [hc] at hr; cases raw <;> simp only [Bool.false_eq_true] at hr
    | some cr =>
      rw [hc] at hr
      cases raw <;> simp only [Bool.false_eq_true] at hr
      exact zs_new (pl := pl) C hR hA hdec hn hc (z_word hr) hb.1 hb.2 h
theorem z_tns_le : ∀ k, z_tn k ≤ 2000 := by
  intro k
  have h : ∀ x ∈ z_tns, x ≤ 2000 := by decide +kernel
  rcases Nat.lt_or_ge k z_tns.length with g | g
  · have e : z_tn k = z_tns[k] := by simp [z_tn, g]
    rw [e]
    exact h _ (List.getElem_mem g)
  · simp [z_tn, g]
theorem zq_newarray (C : z_Cx p s mt args meth c own cc nL ini rt) (En : z_En sa sv A s s.heap) (hA : ∀ q, s.heap.size ≤ q → A q) (hR : z_Rm R n0 nf) {d : Nat} (hRf : d + 9 ≤ R.frames) (hRl : 60 * d + 460 ≤ R.locals) (hWD : z_WD) {o : zO} (hO : z_OS l d o) {sc : Option (Nat × (Nat → Int32))} (hsc : ∀ L xs, sc = some (L, xs) → va_X (sa 0) L xs s s.heap ∧ sa 0 < s.heap.size ∧ ¬ A (sa 0)) {ip pl len : Nat} {raw : Instr} (hdec : decode cc (z_pc cd ip) = .ok (raw, len)) {Rt : Option Value → zM → Prop}
    {lv : zL} {st : List Value} {m : zM} {t : ArrayType} (hI : z_okI own nL ini rt cd ip (z_pc cd ip) pl (.newarray t) raw len = true) (h : z_ps sc o (.newarray t) lv st m False (fun lv st m => z_G p l e R s mt args below meth c Q D A sa ad0 n0 nf nL (z_pc cd) (ip + 1) lv st m) (fun t lv st m => z_G p l e R s mt args below meth c Q D A sa ad0 n0 nf nL (z_pc cd) t lv st m) Rt) : z_G p l e R s mt args below meth c Q D A sa ad0 n0 nf nL (z_pc cd) ip lv st m := by
  obtain ⟨rfl, rfl, hn, ht⟩ := of_decide_eq_true hI
  simp only [z_ps] at h
  split at h
  · rename_i x r
    cases hb : (z_tk m.1).beq (z_ar t) with
    | false => rw [hb] at h; exact h.elim
    | true =>
      rw [hb] at h
      simp only [cond_true] at h
      have hb := Nat.beq_eq.mp hb
      by_cases hx : x = Int32.ofNat (z_tn m.1)
      · rw [if_pos hx] at h
        subst hx
        rcases ht with rfl | rfl | rfl | rfl
        · exact zs_newa_int C hR hA hdec hn hb (z_tns_le _) h
        · exact zs_newa_byte C hR hA hdec hn hb (z_tns_le _) h
        · exact zs_newa_boolean C hR hA hdec hn hb (z_tns_le _) h
        · exact zs_newa_long C hR hA hdec hn hb (z_tns_le _) h
      · rw [if_neg hx] at h; exact h.elim
  · exact h.elim
theorem zq_anewarray (C : z_Cx p s mt args meth c own cc nL ini rt) (En : z_En sa sv A s s.heap) (hA : ∀ q, s.heap.size ≤ q → A q) (hR : z_Rm R n0 nf) {d : Nat} (hRf : d + 9 ≤ R.frames) (hRl : 60 * d + 460 ≤ R.locals) (hWD : z_WD) {o : zO} (hO : z_OS l d o) {sc : Option (Nat × (Nat → Int32))} (hsc : ∀ L xs, sc = some (L, xs) → va_X (sa 0) L xs s s.heap ∧ sa 0 < s.heap.size ∧ ¬ A (sa 0)) {ip pl len : Nat} {raw : Instr} (hdec : decode cc (z_pc cd ip) = .ok (raw, len)) {Rt : Option Value → zM → Prop}
    {lv : zL} {st : List Value} {m : zM} {ci : Nat} (hI : z_okI own nL ini rt cd ip (z_pc cd ip) pl (.anewarray ci) raw len = true) (h : z_ps sc o (.anewarray ci) lv st m False (fun lv st m => z_G p l e R s mt args below meth c Q D A sa ad0 n0 nf nL (z_pc cd) (ip + 1) lv st m) (fun t lv st m => z_G p l e R s mt args below meth c Q D A sa ad0 n0 nf nL (z_pc cd) t lv st m) Rt) : z_G p l e R s mt args below meth c Q D A sa ad0 n0 nf nL (z_pc cd) ip lv st m := by
  simp only [z_ps] at h
  simp only [z_okI, Bool.and_eq_true, decide_eq_true_eq] at hI
  obtain ⟨⟨rfl, hn⟩, hr⟩ := hI
  cases raw <;> simp only [Bool.false_eq_true] at hr
  split at h
  · rename_i x r
    cases hb : (z_tk m.1).beq 5 with
    | false => rw [hb] at h; exact h.elim
    | true =>
      rw [hb] at h
      simp only [cond_true] at h
      have hb := Nat.beq_eq.mp hb
      by_cases hx : x = Int32.ofNat (z_tn m.1)
      · rw [if_pos hx] at h
        subst hx
        exact zs_anewa C En.1 hR hA hdec hn (z_word hr) hb (z_tns_le _) h
      · rw [if_neg hx] at h; exact h.elim
  · exact h.elim
theorem zq_invokevirtual (C : z_Cx p s mt args meth c own cc nL ini rt) (En : z_En sa sv A s s.heap) (hA : ∀ q, s.heap.size ≤ q → A q) (hR : z_Rm R n0 nf) {d : Nat} (hRf : d + 9 ≤ R.frames) (hRl : 60 * d + 460 ≤ R.locals) (hWD : z_WD) {o : zO} (hO : z_OS l d o) {sc : Option (Nat × (Nat → Int32))} (hsc : ∀ L xs, sc = some (L, xs) → va_X (sa 0) L xs s s.heap ∧ sa 0 < s.heap.size ∧ ¬ A (sa 0)) {ip pl len : Nat} {raw : Instr} (hdec : decode cc (z_pc cd ip) = .ok (raw, len)) {Rt : Option Value → zM → Prop}
    {lv : zL} {st : List Value} {m : zM} {q : Nat} (hI : z_okI own nL ini rt cd ip (z_pc cd ip) pl (.invokevirtual q) raw len = true) (h : z_ps sc o (.invokevirtual q) lv st m False (fun lv st m => z_G p l e R s mt args below meth c Q D A sa ad0 n0 nf nL (z_pc cd) (ip + 1) lv st m) (fun t lv st m => z_G p l e R s mt args below meth c Q D A sa ad0 n0 nf nL (z_pc cd) t lv st m) Rt) : z_G p l e R s mt args below meth c Q D A sa ad0 n0 nf nL (z_pc cd) ip lv st m := by
  simp only [z_ps] at h
  simp only [z_okI, Bool.and_eq_true, decide_eq_true_eq] at hI
  obtain ⟨⟨rfl, hn⟩, hr⟩ := hI
  cases hnp : z_np q with
  | none => rw [hnp] at hr; cases raw <;> simp only [Bool.false_eq_true] at hr
  | some n =>
  rw [hnp] at hr
  cases raw <;> simp only [Bool.false_eq_true, Bool.and_eq_true, decide_eq_true_eq] at hr
  obtain ⟨⟨⟨hs0, hcl⟩, hst⟩, hlk⟩ := hr
  have hs := z_sig_na hs0
  obtain ⟨cr, hcr, hcy⟩ := z_cls_spec hcl
  cases htk : z_take (q / 4 % 16) st [] with
  | none => rw [htk] at h; exact h.elim
  | some ar =>
    obtain ⟨as, r⟩ := ar
    rw [htk] at h
    obtain ⟨bs, b1, b2, b3⟩ := z_take_spec htk
    rw [List.append_nil] at b3
    have e1 : bs = as.reverse := by rw [b3, List.reverse_reverse]
    have e2 : as.length = q / 4 % 16 := by rw [b3, List.length_reverse, b1]
    subst b2
    subst e1
    simp only at h
    cases hb : ((z_cs r).ble 8 && z_ref0 (q / 64000) as) with
    | false => rw [hb] at h; exact h.elim
    | true =>
      rw [hb] at h
      simp only [cond_true] at h
      simp only [Bool.and_eq_true] at hb
      obtain ⟨rc, as', has, ht, hc⟩ := z_ref0_spec hb.2
      have hnq : (parseMethodDescriptor (z_y (q / 64 % 1000)).desc).map (fun d => d.parameters.length) = some as'.length := by
        have e3 := e2.trans hs.1
        rw [has, List.length_cons] at e3
        exact hnp.trans (congrArg some (by omega))
      split at h
      · cases ho : o.2.2.1 (q / 64 % 1000) as m with
        | none => rw [ho] at h; exact h.elim
        | some vd =>
          rw [ho] at h
          exact zs_callV C En hA hR hRf hRl (hWD _ hs.2) (Or.inl rfl) (hO.2.2.1 _ _ _ _ ho) hn (Nat.ble_eq.mp hb.1) hdec has ht hc hcr hcy hst.1 hst.2 hnq (z_word hlk) h
      · cases ho : o.1 (q / 64 % 1000) as m with
        | none => rw [ho] at h; exact h.elim
        | some vd =>
          obtain ⟨vx, dd⟩ := vd
          rw [ho] at h
          exact zs_callV C En hA hR hRf hRl (hWD _ hs.2) (Or.inr (Or.inl ⟨_, rfl⟩)) (hO.1 _ _ _ _ ho) hn (Nat.ble_eq.mp hb.1) hdec has ht hc hcr hcy hst.1 hst.2 hnq (z_word hlk) h
      · cases ho : o.2.1 (q / 64 % 1000) as m with
        | none => rw [ho] at h; exact h.elim
        | some vd =>
          obtain ⟨vx, dd⟩ := vd
          rw [ho] at h
          exact zs_callV C En hA hR hRf hRl (hWD _ hs.2) (Or.inr (Or.inr ⟨_, rfl⟩)) (hO.2.1 _ _ _ _ ho) hn (Nat.ble_eq.mp hb.1) hdec has ht hc hcr hcy hst.1 hst.2 hnq (z_word hlk) h
theorem zq_invokeinterface (C : z_Cx p s mt args meth c own cc nL ini rt) (En : z_En sa sv A s s.heap) (hA : ∀ q, s.heap.size ≤ q → A q) (hR : z_Rm R n0 nf) {d : Nat} (hRf : d + 9 ≤ R.frames) (hRl : 60 * d + 460 ≤ R.locals) (hWD : z_WD) {o : zO} (hO : z_OS l d o) {sc : Option (Nat × (Nat → Int32))} (hsc : ∀ L xs, sc = some (L, xs) → va_X (sa 0) L xs s s.heap ∧ sa 0 < s.heap.size ∧ ¬ A (sa 0)) {ip pl len : Nat} {raw : Instr} (hdec : decode cc (z_pc cd ip) = .ok (raw, len)) {Rt : Option Value → zM → Prop}
    {lv : zL} {st : List Value} {m : zM} {q q2 : Nat} (hI : z_okI own nL ini rt cd ip (z_pc cd ip) pl (.invokeinterface q q2) raw len = true) (h : z_ps sc o (.invokeinterface q q2) lv st m False (fun lv st m => z_G p l e R s mt args below meth c Q D A sa ad0 n0 nf nL (z_pc cd) (ip + 1) lv st m) (fun t lv st m => z_G p l e R s mt args below meth c Q D A sa ad0 n0 nf nL (z_pc cd) t lv st m) Rt) : z_G p l e R s mt args below meth c Q D A sa ad0 n0 nf nL (z_pc cd) ip lv st m := by
  simp only [z_ps] at h
  simp only [z_okI, Bool.and_eq_true, decide_eq_true_eq] at hI
  obtain ⟨⟨rfl, hn, hq1⟩, hr⟩ := hI
  cases hnp : z_np q with
  | none => rw [hnp] at hr; cases raw <;> simp only [Bool.false_eq_true] at hr
  | some n =>
  rw [hnp] at hr
  cases raw <;> simp only [Bool.false_eq_true, Bool.and_eq_true, decide_eq_true_eq] at hr
  obtain ⟨⟨⟨hs0, hcl⟩, hst⟩, hlk⟩ := hr
  have hs := z_sig_na hs0
  obtain ⟨cr, hcr, hcy⟩ := z_cls_spec hcl
  cases htk : z_take (q / 4 % 16) st [] with
  | none => rw [htk] at h; exact h.elim
  | some ar =>
    obtain ⟨as, r⟩ := ar
    rw [htk] at h
    obtain ⟨bs, b1, b2, b3⟩ := z_take_spec htk
    rw [List.append_nil] at b3
    have e1 : bs = as.reverse := by rw [b3, List.reverse_reverse]
    have e2 : as.length = q / 4 % 16 := by rw [b3, List.length_reverse, b1]
    subst b2
    subst e1
    simp only at h
    cases hb : ((z_cs r).ble 8 && z_ref0 (q / 64000) as) with
    | false => rw [hb] at h; exact h.elim
    | true =>
      rw [hb] at h
      simp only [cond_true] at h
      simp only [Bool.and_eq_true] at hb
      obtain ⟨rc, as', has, ht, hc⟩ := z_ref0_spec hb.2
      have hnq : (parseMethodDescriptor (z_y (q / 64 % 1000)).desc).map (fun d => d.parameters.length) = some as'.length := by
        have e3 := e2.trans hs.1
        rw [has, List.length_cons] at e3
        exact hnp.trans (congrArg some (by omega))
      cases ho : o.2.2.2.2 (q / 64 % 1000) as m with
      | none => rw [ho] at h; exact h.elim
      | some vd =>
        obtain ⟨vx, dd⟩ := vd
        rw [ho] at h
        exact zs_callV C En hA hR hRf hRl (hWD _ hs.2) (Or.inr (Or.inl ⟨_, rfl⟩)) (hO.2.2.2.2 _ _ _ _ ho) hn (Nat.ble_eq.mp hb.1) hdec has ht hc hcr hcy hst.1 hst.2 hnq (z_word hlk) h
theorem zq_invokestatic (C : z_Cx p s mt args meth c own cc nL ini rt) (En : z_En sa sv A s s.heap) (hA : ∀ q, s.heap.size ≤ q → A q) (hR : z_Rm R n0 nf) {d : Nat} (hRf : d + 9 ≤ R.frames) (hRl : 60 * d + 460 ≤ R.locals) (hWD : z_WD) {o : zO} (hO : z_OS l d o) {sc : Option (Nat × (Nat → Int32))} (hsc : ∀ L xs, sc = some (L, xs) → va_X (sa 0) L xs s s.heap ∧ sa 0 < s.heap.size ∧ ¬ A (sa 0)) {ip pl len : Nat} {raw : Instr} (hdec : decode cc (z_pc cd ip) = .ok (raw, len)) {Rt : Option Value → zM → Prop}
    {lv : zL} {st : List Value} {m : zM} {q : Nat} (hI : z_okI own nL ini rt cd ip (z_pc cd ip) pl (.invokestatic q) raw len = true) (h : z_ps sc o (.invokestatic q) lv st m False (fun lv st m => z_G p l e R s mt args below meth c Q D A sa ad0 n0 nf nL (z_pc cd) (ip + 1) lv st m) (fun t lv st m => z_G p l e R s mt args below meth c Q D A sa ad0 n0 nf nL (z_pc cd) t lv st m) Rt) : z_G p l e R s mt args below meth c Q D A sa ad0 n0 nf nL (z_pc cd) ip lv st m := by
  simp only [z_ps] at h
  simp only [z_okI, Bool.and_eq_true, decide_eq_true_eq] at hI
  obtain ⟨⟨rfl, hn⟩, hr⟩ := hI
  cases hnp : z_np q with
  | none => rw [hnp] at hr; cases raw <;> simp only [Bool.false_eq_true] at hr
  | some n =>
  rw [hnp] at hr
  cases raw <;> simp only [Bool.false_eq_true, Bool.and_eq_true, decide_eq_true_eq] at hr
  obtain ⟨⟨hs0, hst⟩, hlk⟩ := hr
  have hs := z_sig_na hs0
  cases htk : z_take (q / 4 % 16) st [] with
  | none => rw [htk] at h; exact h.elim
  | some ar =>
    obtain ⟨as, r⟩ := ar
    rw [htk] at h
    obtain ⟨bs, b1, b2, b3⟩ := z_take_spec htk
    rw [List.append_nil] at b3
    have e1 : bs = as.reverse := by rw [b3, List.reverse_reverse]
    have e2 : as.length = q / 4 % 16 := by rw [b3, List.length_reverse, b1]
    subst b2
    subst e1
    simp only at h
    cases hb : (z_cs r).ble 8 with
    | false => rw [hb] at h; exact h.elim
    | true =>
      rw [hb] at h
      simp only [cond_true] at h
      have hnq : (parseMethodDescriptor (z_y (q / 64 % 1000)).desc).map (fun d => d.parameters.length) = some as.length := hnp.trans (congrArg some (e2.trans hs.1).symm)
      split at h
      · cases ho : o.2.2.1 (q / 64 % 1000) as m with
        | none => rw [ho] at h; exact h.elim
        | some vd =>
          rw [ho] at h
          exact zs_callS C En hA hR hRf hRl (hWD _ hs.2) (Or.inl rfl) (hO.2.2.1 _ _ _ _ ho) hn (Nat.ble_eq.mp hb) hdec hst hnq (z_lnk_spec hlk) h
      · cases ho : o.1 (q / 64 % 1000) as m with
        | none => rw [ho] at h; exact h.elim
        | some vd =>
          obtain ⟨vx, dd⟩ := vd
          rw [ho] at h
          exact zs_callS C En hA hR hRf hRl (hWD _ hs.2) (Or.inr (Or.inl ⟨_, rfl⟩)) (hO.1 _ _ _ _ ho) hn (Nat.ble_eq.mp hb) hdec hst hnq (z_lnk_spec hlk) h
      · cases ho : o.2.1 (q / 64 % 1000) as m with
        | none => rw [ho] at h; exact h.elim
        | some vd =>
          obtain ⟨vx, dd⟩ := vd
          rw [ho] at h
          exact zs_callS C En hA hR hRf hRl (hWD _ hs.2) (Or.inr (Or.inr ⟨_, rfl⟩)) (hO.2.1 _ _ _ _ ho) hn (Nat.ble_eq.mp hb) hdec hst hnq (z_lnk_spec hlk) h
theorem zq_invokespecial (C : z_Cx p s mt args meth c own cc nL ini rt) (En : z_En sa sv A s s.heap) (hA : ∀ q, s.heap.size ≤ q → A q) (hR : z_Rm R n0 nf) {d : Nat} (hRf : d + 9 ≤ R.frames) (hRl : 60 * d + 460 ≤ R.locals) (hWD : z_WD) {o : zO} (hO : z_OS l d o) {sc : Option (Nat × (Nat → Int32))} (hsc : ∀ L xs, sc = some (L, xs) → va_X (sa 0) L xs s s.heap ∧ sa 0 < s.heap.size ∧ ¬ A (sa 0)) {ip pl len : Nat} {raw : Instr} (hdec : decode cc (z_pc cd ip) = .ok (raw, len)) {Rt : Option Value → zM → Prop}
    {lv : zL} {st : List Value} {m : zM} {q : Nat} (hI : z_okI own nL ini rt cd ip (z_pc cd ip) pl (.invokespecial q) raw len = true) (h : z_ps sc o (.invokespecial q) lv st m False (fun lv st m => z_G p l e R s mt args below meth c Q D A sa ad0 n0 nf nL (z_pc cd) (ip + 1) lv st m) (fun t lv st m => z_G p l e R s mt args below meth c Q D A sa ad0 n0 nf nL (z_pc cd) t lv st m) Rt) : z_G p l e R s mt args below meth c Q D A sa ad0 n0 nf nL (z_pc cd) ip lv st m := by
  simp only [z_ps] at h
  simp only [z_okI, Bool.and_eq_true, decide_eq_true_eq] at hI
  obtain ⟨⟨rfl, hn⟩, hr⟩ := hI
  cases hnp : z_np q with
  | none => rw [hnp] at hr; cases raw <;> simp only [Bool.false_eq_true] at hr
  | some n =>
  rw [hnp] at hr
  cases raw <;> simp only [Bool.false_eq_true, Bool.and_eq_true, decide_eq_true_eq] at hr
  obtain ⟨⟨⟨hs0, hcl⟩, hst⟩, hlk⟩ := hr
  have hs := z_sig_na hs0
  cases htk : z_take (q / 4 % 16) st [] with
  | none => rw [htk] at h; exact h.elim
  | some ar =>
    obtain ⟨as, r⟩ := ar
    rw [htk] at h
    obtain ⟨bs, b1, b2, b3⟩ := z_take_spec htk
    rw [List.append_nil] at b3
    have e1 : bs = as.reverse := by rw [b3, List.reverse_reverse]
    have e2 : as.length = q / 4 % 16 := by rw [b3, List.length_reverse, b1]
    subst b2
    subst e1
    simp only at h
    cases hb : ((z_cs r).ble 8 && z_ref0 (q / 64000) as) with
    | false => rw [hb] at h; exact h.elim
    | true =>
      rw [hb] at h
      simp only [cond_true] at h
      simp only [Bool.and_eq_true] at hb
      obtain ⟨rc, as', has, ht, hc⟩ := z_ref0_spec hb.2
      have hnq : (parseMethodDescriptor (z_y (q / 64 % 1000)).desc).map (fun d => d.parameters.length) = some as'.length := by
        have e3 := e2.trans hs.1
        rw [has, List.length_cons] at e3
        exact hnp.trans (congrArg some (by omega))
      cases ho : o.2.2.2.1 (q / 64 % 1000) as m with
      | none => rw [ho] at h; exact h.elim
      | some vd =>
        rw [ho] at h
        exact zs_callI C En hA hR hRf hRl (hWD _ hs.2) (Or.inl rfl) (hO.2.2.2.1 _ _ _ _ ho) hn (Nat.ble_eq.mp hb.1) hdec has ht hst.1 hst.2.1 hst.2.2 hnq (z_lnk_spec hlk) h
theorem zq_ireturn (C : z_Cx p s mt args meth c own cc nL ini rt) (En : z_En sa sv A s s.heap) (hA : ∀ q, s.heap.size ≤ q → A q) (hR : z_Rm R n0 nf) {d : Nat} (hRf : d + 9 ≤ R.frames) (hRl : 60 * d + 460 ≤ R.locals) (hWD : z_WD) {o : zO} (hO : z_OS l d o) {sc : Option (Nat × (Nat → Int32))} (hsc : ∀ L xs, sc = some (L, xs) → va_X (sa 0) L xs s s.heap ∧ sa 0 < s.heap.size ∧ ¬ A (sa 0)) {ip pl len : Nat} {raw : Instr} (hdec : decode cc (z_pc cd ip) = .ok (raw, len)) {Rt : Option Value → zM → Prop}
    {lv : zL} {st : List Value} {m : zM} (hRt : ∀ v m, Rt v m → m.1 ≤ nf ∧ ∀ (ad : Nat → Nat) (ac : Nat → ClassId) (tys : List (ClassId × FieldType)) (H : Heap) (locs : List Loc) (ls : Array Slot) (pc : Nat) (ins : Instr), z_St D A s ad0 n0 m ad ac tys H locs → z_rin rt v ins → decode cc pc = .ok (ins, 1) → W p l e R s mt args below meth c H locs (m.1 - n0) (z_sl m.1 - z_sl n0) Q (F0 mt pc ls v.toList)) (hI : z_okI own nL ini rt cd ip (z_pc cd ip) pl (.ireturn) raw len = true) (h : z_ps sc o (.ireturn) lv st m False (fun lv st m => z_G p l e R s mt args below meth c Q D A sa ad0 n0 nf nL (z_pc cd) (ip + 1) lv st m) (fun t lv st m => z_G p l e R s mt args below meth c Q D A sa ad0 n0 nf nL (z_pc cd) t lv st m) Rt) : z_G p l e R s mt args below meth c Q D A sa ad0 n0 nf nL (z_pc cd) ip lv st m := by
  obtain ⟨rfl, rfl, hrt⟩ := of_decide_eq_true hI
  simp only [z_ps] at h
  split at h
  · obtain ⟨h1, h2⟩ := hRt _ _ h
    exact ⟨h1, fun ad ac tys H locs ls hSt hl ho hvv => h2 ad ac tys H locs ls _ _ hSt ⟨rfl, Or.inl hrt⟩ hdec⟩
  · exact h.elim
theorem zq_lreturn (C : z_Cx p s mt args meth c own cc nL ini rt) (En : z_En sa sv A s s.heap) (hA : ∀ q, s.heap.size ≤ q → A q) (hR : z_Rm R n0 nf) {d : Nat} (hRf : d + 9 ≤ R.frames) (hRl : 60 * d + 460 ≤ R.locals) (hWD : z_WD) {o : zO} (hO : z_OS l d o) {sc : Option (Nat × (Nat → Int32))} (hsc : ∀ L xs, sc = some (L, xs) → va_X (sa 0) L xs s s.heap ∧ sa 0 < s.heap.size ∧ ¬ A (sa 0)) {ip pl len : Nat} {raw : Instr} (hdec : decode cc (z_pc cd ip) = .ok (raw, len)) {Rt : Option Value → zM → Prop}
    {lv : zL} {st : List Value} {m : zM} (hRt : ∀ v m, Rt v m → m.1 ≤ nf ∧ ∀ (ad : Nat → Nat) (ac : Nat → ClassId) (tys : List (ClassId × FieldType)) (H : Heap) (locs : List Loc) (ls : Array Slot) (pc : Nat) (ins : Instr), z_St D A s ad0 n0 m ad ac tys H locs → z_rin rt v ins → decode cc pc = .ok (ins, 1) → W p l e R s mt args below meth c H locs (m.1 - n0) (z_sl m.1 - z_sl n0) Q (F0 mt pc ls v.toList)) (hI : z_okI own nL ini rt cd ip (z_pc cd ip) pl (.lreturn) raw len = true) (h : z_ps sc o (.lreturn) lv st m False (fun lv st m => z_G p l e R s mt args below meth c Q D A sa ad0 n0 nf nL (z_pc cd) (ip + 1) lv st m) (fun t lv st m => z_G p l e R s mt args below meth c Q D A sa ad0 n0 nf nL (z_pc cd) t lv st m) Rt) : z_G p l e R s mt args below meth c Q D A sa ad0 n0 nf nL (z_pc cd) ip lv st m := by
  obtain ⟨rfl, rfl, hrt⟩ := of_decide_eq_true hI
  simp only [z_ps] at h
  split at h
  · obtain ⟨h1, h2⟩ := hRt _ _ h
    exact ⟨h1, fun ad ac tys H locs ls hSt hl ho hvv => h2 ad ac tys H locs ls _ _ hSt ⟨rfl, hrt⟩ hdec⟩
  · exact h.elim
theorem zq_return_ (C : z_Cx p s mt args meth c own cc nL ini rt) (En : z_En sa sv A s s.heap) (hA : ∀ q, s.heap.size ≤ q → A q) (hR : z_Rm R n0 nf) {d : Nat} (hRf : d + 9 ≤ R.frames) (hRl : 60 * d + 460 ≤ R.locals) (hWD : z_WD) {o : zO} (hO : z_OS l d o) {sc : Option (Nat × (Nat → Int32))} (hsc : ∀ L xs, sc = some (L, xs) → va_X (sa 0) L xs s s.heap ∧ sa 0 < s.heap.size ∧ ¬ A (sa 0)) {ip pl len : Nat} {raw : Instr} (hdec : decode cc (z_pc cd ip) = .ok (raw, len)) {Rt : Option Value → zM → Prop}
    {lv : zL} {st : List Value} {m : zM} (hRt : ∀ v m, Rt v m → m.1 ≤ nf ∧ ∀ (ad : Nat → Nat) (ac : Nat → ClassId) (tys : List (ClassId × FieldType)) (H : Heap) (locs : List Loc) (ls : Array Slot) (pc : Nat) (ins : Instr), z_St D A s ad0 n0 m ad ac tys H locs → z_rin rt v ins → decode cc pc = .ok (ins, 1) → W p l e R s mt args below meth c H locs (m.1 - n0) (z_sl m.1 - z_sl n0) Q (F0 mt pc ls v.toList)) (hI : z_okI own nL ini rt cd ip (z_pc cd ip) pl (.return_) raw len = true) (h : z_ps sc o (.return_) lv st m False (fun lv st m => z_G p l e R s mt args below meth c Q D A sa ad0 n0 nf nL (z_pc cd) (ip + 1) lv st m) (fun t lv st m => z_G p l e R s mt args below meth c Q D A sa ad0 n0 nf nL (z_pc cd) t lv st m) Rt) : z_G p l e R s mt args below meth c Q D A sa ad0 n0 nf nL (z_pc cd) ip lv st m := by
  obtain ⟨rfl, rfl, hrt⟩ := of_decide_eq_true hI
  simp only [z_ps] at h
  split at h
  · obtain ⟨h1, h2⟩ := hRt _ _ h
    exact ⟨h1, fun ad ac tys H locs ls hSt hl ho hvv => h2 ad ac tys H locs ls _ _ hSt ⟨rfl, hrt⟩ hdec⟩
  · exact h.elim
theorem zq_areturn (C : z_Cx p s mt args meth c own cc nL ini rt) (En : z_En sa sv A s s.heap) (hA : ∀ q, s.heap.size ≤ q → A q) (hR : z_Rm R n0 nf) {d : Nat} (hRf : d + 9 ≤ R.frames) (hRl : 60 * d + 460 ≤ R.locals) (hWD : z_WD) {o : zO} (hO : z_OS l d o) {sc : Option (Nat × (Nat → Int32))} (hsc : ∀ L xs, sc = some (L, xs) → va_X (sa 0) L xs s s.heap ∧ sa 0 < s.heap.size ∧ ¬ A (sa 0)) {ip pl len : Nat} {raw : Instr} (hdec : decode cc (z_pc cd ip) = .ok (raw, len)) {Rt : Option Value → zM → Prop}
    {lv : zL} {st : List Value} {m : zM} (hRt : ∀ v m, Rt v m → m.1 ≤ nf ∧ ∀ (ad : Nat → Nat) (ac : Nat → ClassId) (tys : List (ClassId × FieldType)) (H : Heap) (locs : List Loc) (ls : Array Slot) (pc : Nat) (ins : Instr), z_St D A s ad0 n0 m ad ac tys H locs → z_rin rt v ins → decode cc pc = .ok (ins, 1) → W p l e R s mt args below meth c H locs (m.1 - n0) (z_sl m.1 - z_sl n0) Q (F0 mt pc ls v.toList)) (hI : z_okI own nL ini rt cd ip (z_pc cd ip) pl (.areturn) raw len = true) (h : z_ps sc o (.areturn) lv st m False (fun lv st m => z_G p l e R s mt args below meth c Q D A sa ad0 n0 nf nL (z_pc cd) (ip + 1) lv st m) (fun t lv st m => z_G p l e R s mt args below meth c Q D A sa ad0 n0 nf nL (z_pc cd) t lv st m) Rt) : z_G p l e R s mt args below meth c Q D A sa ad0 n0 nf nL (z_pc cd) ip lv st m := by
  obtain ⟨rfl, rfl, hrt⟩ := of_decide_eq_true hI
  simp only [z_ps] at h
  split at h
  · rename_i x
    by_cases hx : x = 0 ∨ x = 1
    · rw [if_pos hx] at h
      obtain ⟨h1, h2⟩ := hRt _ _ h
      exact ⟨h1, fun ad ac tys H locs ls hSt hl ho hvv => h2 ad ac tys H locs ls _ _ hSt ⟨rfl, Or.inr ⟨hrt, hx⟩⟩ hdec⟩
    · rw [if_neg hx] at h; exact h.elim
  · exact h.elim
end ZS
end
section
/-! any instruction; a stretch of them; a run; a method's contract -/
section ZS
variable {p : Program} {l : Launch} {e : Env} {R : Room} {s : State} {mt : MethodId} {args : Array Value} {below : List Frame} {meth : Method} {c : Code} {Q : State → Prop} {D : va_G} {A : Nat → Prop} {sa sv ad0 : Nat → Nat} {n0 nf nL : Nat} {cd : List zI} {own : String} {cc : ByteArray} {ini : Bool} {rt : Option FieldType}

theorem zq_invokedynamic (C : z_Cx p s mt args meth c own cc nL ini rt) (En : z_En sa sv A s s.heap) (hA : ∀ q, s.heap.size ≤ q → A q) (hR : z_Rm R n0 nf) {d : Nat} (hRf : d + 9 ≤ R.frames) (hRl : 60 * d + 460 ≤ R.locals) (hWD : z_WD) {o : zO} (hO : z_OS l d o) {sc : Option (Nat × (Nat → Int32))} (hsc : ∀ L xs, sc = some (L, xs) → va_X (sa 0) L xs s s.heap ∧ sa 0 < s.heap.size ∧ ¬ A (sa 0)) {ip pl len : Nat} {raw : Instr} (hdec : decode cc (z_pc cd ip) = .ok (raw, len)) {Rt : Option Value → zM → Prop}
    {lv : zL} {st : List Value} {m : zM} {q : Nat} (hI : z_okI own nL ini rt cd ip (z_pc cd ip) pl (.invokedynamic q) raw len = true) (h : z_ps sc o (.invokedynamic q) lv st m False (fun lv st m => z_G p l e R s mt args below meth c Q D A sa ad0 n0 nf nL (z_pc cd) (ip + 1) lv st m) (fun t lv st m => z_G p l e R s mt args below meth c Q D A sa ad0 n0 nf nL (z_pc cd) t lv st m) Rt) : z_G p l e R s mt args below meth c Q D A sa ad0 n0 nf nL (z_pc cd) ip lv st m := by
  simp only [z_okI, Bool.and_eq_true, decide_eq_true_eq] at hI
  obtain ⟨⟨rfl, hn⟩, hr⟩ := hI
  match q, hr, h with
  | 0, hr, h =>
    cases raw <;> simp only [Bool.false_eq_true] at hr
    simp only [z_ps] at h
    split at h
    · rename_i y x r _
      cases hb : (z_cs r).ble 8 with
      | false => rw [hb] at h; exact h.elim
      | true =>
        rw [hb] at h
        simp only [cond_true] at h
        exact zs_min C hR (Nat.ble_eq.mp hb) hdec hn (z_word hr) h
    · exact h.elim
  | 1, hr, h =>
    cases raw <;> simp only [Bool.false_eq_true] at hr
    simp only [z_ps] at h
    split at h
    · rename_i y x r _
      cases hb : (z_cs r).ble 8 with
      | false => rw [hb] at h; exact h.elim
      | true =>
        rw [hb] at h
        simp only [cond_true] at h
        exact zs_max C hR (Nat.ble_eq.mp hb) hdec hn (z_word hr) h
    · exact h.elim
  | 2, hr, h =>
    cases raw <;> simp only [Bool.false_eq_true] at hr
    simp only [z_ps] at h
    split at h
    · rename_i x r _
      cases hb : (z_cs r).ble 8 with
      | false => rw [hb] at h; exact h.elim
      | true =>
        rw [hb] at h
        simp only [cond_true] at h
        exact zs_abs C hR (Nat.ble_eq.mp hb) hdec hn (z_word hr) h
    · exact h.elim
  | 3, hr, h =>
    cases raw <;> simp only [Bool.false_eq_true] at hr
    simp only [z_ps] at h
    split at h
    · rename_i k r _
      cases hb : ((z_cs r).ble 8 && z_sb.blt k) with
      | false => rw [hb] at h; exact h.elim
      | true =>
        rw [hb] at h
        simp only [cond_true] at h
        simp only [Bool.and_eq_true, Nat.blt_eq] at hb
        exact zs_strlen C En hA hR (Nat.ble_eq.mp hb.1) hdec hn hb.2 (z_word hr) h
    · exact h.elim
  | 4, hr, h =>
    cases raw <;> simp only [Bool.false_eq_true] at hr
    simp only [z_ps] at h
    split at h
    · rename_i j k r _
      cases hb : ((z_cs r).ble 8 && z_sb.blt k) with
      | false => rw [hb] at h; exact h.elim
      | true =>
        rw [hb] at h
        simp only [cond_true] at h
        simp only [Bool.and_eq_true, Nat.blt_eq] at hb
        by_cases hj : j < 0 ∨ (z_tx (k - z_sb)).length ≤ j.toNatClampNeg
        · rw [if_pos hj] at h; exact h.elim
        · rw [if_neg hj] at h
          exact zs_charat C En hA hR (Nat.ble_eq.mp hb.1) hdec hn hb.2 (z_word hr) hj h
    · exact h.elim
  | q + 5, hr, h => cases raw <;> simp only [Bool.false_eq_true] at hr
theorem zq_any (C : z_Cx p s mt args meth c own cc nL ini rt) (En : z_En sa sv A s s.heap) (hA : ∀ q, s.heap.size ≤ q → A q) (hR : z_Rm R n0 nf) {d : Nat} (hRf : d + 9 ≤ R.frames) (hRl : 60 * d + 460 ≤ R.locals) (hWD : z_WD) {o : zO} (hO : z_OS l d o) {sc : Option (Nat × (Nat → Int32))} (hsc : ∀ L xs, sc = some (L, xs) → va_X (sa 0) L xs s s.heap ∧ sa 0 < s.heap.size ∧ ¬ A (sa 0)) {ip pl len : Nat} {raw : Instr} (hdec : decode cc (z_pc cd ip) = .ok (raw, len)) {Rt : Option Value → zM → Prop}
    {lv : zL} {st : List Value} {m : zM} {ins : Instr} (hRt : ∀ v m, Rt v m → m.1 ≤ nf ∧ ∀ (ad : Nat → Nat) (ac : Nat → ClassId) (tys : List (ClassId × FieldType)) (H : Heap) (locs : List Loc) (ls : Array Slot) (pc : Nat) (ins : Instr), z_St D A s ad0 n0 m ad ac tys H locs → z_rin rt v ins → decode cc pc = .ok (ins, 1) → W p l e R s mt args below meth c H locs (m.1 - n0) (z_sl m.1 - z_sl n0) Q (F0 mt pc ls v.toList)) (hI : z_okI own nL ini rt cd ip (z_pc cd ip) pl (ins) raw len = true) (h : z_ps sc o (ins) lv st m False (fun lv st m => z_G p l e R s mt args below meth c Q D A sa ad0 n0 nf nL (z_pc cd) (ip + 1) lv st m) (fun t lv st m => z_G p l e R s mt args below meth c Q D A sa ad0 n0 nf nL (z_pc cd) t lv st m) Rt) : z_G p l e R s mt args below meth c Q D A sa ad0 n0 nf nL (z_pc cd) ip lv st m := by
  cases ins with
  | iadd => exact zq_iadd C En hA hR hRf hRl hWD hO hsc hdec hI h
  | isub => exact zq_isub C En hA hR hRf hRl hWD hO hsc hdec hI h
  | imul => exact zq_imul C En hA hR hRf hRl hWD hO hsc hdec hI h
  | iand => exact zq_iand C En hA hR hRf hRl hWD hO hsc hdec hI h
  | ior => exact zq_ior C En hA hR hRf hRl hWD hO hsc hdec hI h
  | ixor => exact zq_ixor C En hA hR hRf hRl hWD hO hsc hdec hI h
  | ishl => exact zq_ishl C En hA hR hRf hRl hWD hO hsc hdec hI h
  | ishr => exact zq_ishr C En hA hR hRf hRl hWD hO hsc hdec hI h
  | ladd => exact zq_ladd C En hA hR hRf hRl hWD hO hsc hdec hI h
  | lsub => exact zq_lsub C En hA hR hRf hRl hWD hO hsc hdec hI h
  | lmul => exact zq_lmul C En hA hR hRf hRl hWD hO hsc hdec hI h
  | land => exact zq_land C En hA hR hRf hRl hWD hO hsc hdec hI h
  | lor => exact zq_lor C En hA hR hRf hRl hWD hO hsc hdec hI h
  | lshl => exact zq_lshl C En hA hR hRf hRl hWD hO hsc hdec hI h
  | lshr => exact zq_lshr C En hA hR hRf hRl hWD hO hsc hdec hI h
  | lcmp => exact zq_lcmp C En hA hR hRf hRl hWD hO hsc hdec hI h
  | ineg => exact zq_ineg C En hA hR hRf hRl hWD hO hsc hdec hI h
  | i2l => exact zq_i2l C En hA hR hRf hRl hWD hO hsc hdec hI h
  | l2i => exact zq_l2i C En hA hR hRf hRl hWD hO hsc hdec hI h
  | i2b => exact zq_i2b C En hA hR hRf hRl hWD hO hsc hdec hI h
  | i2s => exact zq_i2s C En hA hR hRf hRl hWD hO hsc hdec hI h
  | idiv => exact zq_idiv C En hA hR hRf hRl hWD hO hsc hdec hI h
  | irem => exact zq_irem C En hA hR hRf hRl hWD hO hsc hdec hI h
  | ldiv => exact zq_ldiv C En hA hR hRf hRl hWD hO hsc hdec hI h
  | lrem => exact zq_lrem C En hA hR hRf hRl hWD hO hsc hdec hI h
  | dup => exact zq_dup C En hA hR hRf hRl hWD hO hsc hdec hI h
  | dup2 => exact zq_dup2 C En hA hR hRf hRl hWD hO hsc hdec hI h
  | iconst => exact zq_iconst C En hA hR hRf hRl hWD hO hsc hdec hI h
  | ldc2_w => exact zq_ldc2_w C En hA hR hRf hRl hWD hO hsc hdec hI h
  | ldc => exact zq_ldc C En hA hR hRf hRl hWD hO hsc hdec hI h
  | iload => exact zq_iload C En hA hR hRf hRl hWD hO hsc hdec hI h
  | lload => exact zq_lload C En hA hR hRf hRl hWD hO hsc hdec hI h
  | aload => exact zq_aload C En hA hR hRf hRl hWD hO hsc hdec hI h
  | istore => exact zq_istore C En hA hR hRf hRl hWD hO hsc hdec hI h
  | lstore => exact zq_lstore C En hA hR hRf hRl hWD hO hsc hdec hI h
  | astore => exact zq_astore C En hA hR hRf hRl hWD hO hsc hdec hI h
  | iinc => exact zq_iinc C En hA hR hRf hRl hWD hO hsc hdec hI h
  | pop => exact zq_pop C En hA hR hRf hRl hWD hO hsc hdec hI h
  | pop2 => exact zq_pop2 C En hA hR hRf hRl hWD hO hsc hdec hI h
  | if_icmp => exact zq_if_icmp C En hA hR hRf hRl hWD hO hsc hdec hI h
  | ifCond => exact zq_ifCond C En hA hR hRf hRl hWD hO hsc hdec hI h
  | ifnonnull => exact zq_ifnonnull C En hA hR hRf hRl hWD hO hsc hdec hI h
  | goto => exact zq_goto C En hA hR hRf hRl hWD hO hsc hdec hI h
  | tableswitch => exact zq_tableswitch C En hA hR hRf hRl hWD hO hsc hdec hI h
  | getfield => exact zq_getfield C En hA hR hRf hRl hWD hO hsc hdec hI h
  | putfield => exact zq_putfield C En hA hR hRf hRl hWD hO hsc hdec hI h
  | arraylength => exact zq_arraylength C En hA hR hRf hRl hWD hO hsc hdec hI h
  | iaload => exact zq_iaload C En hA hR hRf hRl hWD hO hsc hdec hI h
  | baload => exact zq_baload C En hA hR hRf hRl hWD hO hsc hdec hI h
  | laload => exact zq_laload C En hA hR hRf hRl hWD hO hsc hdec hI h
  | aaload => exact zq_aaload C En hA hR hRf hRl hWD hO hsc hdec hI h
  | iastore => exact zq_iastore C En hA hR hRf hRl hWD hO hsc hdec hI h
  | lastore => exact zq_lastore C En hA hR hRf hRl hWD hO hsc hdec hI h
  | bastore => exact zq_bastore C En hA hR hRf hRl hWD hO hsc hdec hI h
  | aastore => exact zq_aastore C En hA hR hRf hRl hWD hO hsc hdec hI h
  | new => exact zq_new C En hA hR hRf hRl hWD hO hsc hdec hI h
  | newarray => exact zq_newarray C En hA hR hRf hRl hWD hO hsc hdec hI h
  | anewarray => exact zq_anewarray C En hA hR hRf hRl hWD hO hsc hdec hI h
  | invokevirtual => exact zq_invokevirtual C En hA hR hRf hRl hWD hO hsc hdec hI h
  | invokeinterface => exact zq_invokeinterface C En hA hR hRf hRl hWD hO hsc hdec hI h
  | invokestatic => exact zq_invokestatic C En hA hR hRf hRl hWD hO hsc hdec hI h
  | invokespecial => exact zq_invokespecial C En hA hR hRf hRl hWD hO hsc hdec hI h
  | invokedynamic => exact zq_invokedynamic C En hA hR hRf hRl hWD hO hsc hdec hI h
  | ireturn => exact zq_ireturn C En hA hR hRf hRl hWD hO hsc hdec hRt hI h
  | lreturn => exact zq_lreturn C En hA hR hRf hRl hWD hO hsc hdec hRt hI h
  | return_ => exact zq_return_ C En hA hR hRf hRl hWD hO hsc hdec hRt hI h
  | areturn => exact zq_areturn C En hA hR hRf hRl hWD hO hsc hdec hRt hI h
  | _ => exact absurd (show false = true from hI) (by decide)
def z_Kt (K : Nat → zL → List Value → zM → Prop) (Rt : Option Value → zM → Prop) (x : Option ((Option Value × zM) ⊕ (Nat × zL × List Value × zM))) : Prop := match x with
  | none => False
  | some (.inl r) => Rt r.1 r.2
  | some (.inr q) => K q.1 q.2.1 q.2.2.1 q.2.2.2
theorem z_ps_mono {sc : Option (Nat × (Nat → Int32))} {o : zO} {ins : Instr} {lv : zL} {st : List Value} {m : zM} {kn kn' : zL → List Value → zM → Prop} {kj kj' : Nat → zL → List Value → zM → Prop} {kr : Option Value → zM → Prop} (h1 : ∀ a b c, kn a b c → kn' a b c) (h2 : ∀ t a b c, kj t a b c → kj' t a b c) (h : z_ps sc o ins lv st m False kn kj kr) : z_ps sc o ins lv st m False kn' kj' kr := by
  have e1 := z_ps_map (α := {x : Prop × Prop // x.1 → x.2}) (fun x => x.1.1) sc o ins lv st m ⟨(False, False), id⟩ (fun a b c => ⟨(kn a b c, kn' a b c), h1 a b c⟩) (fun t a b c => ⟨(kj t a b c, kj' t a b c), h2 t a b c⟩) (fun v c => ⟨(kr v c, kr v c), id⟩)
  have e2 := z_ps_map (α := {x : Prop × Prop // x.1 → x.2}) (fun x => x.1.2) sc o ins lv st m ⟨(False, False), id⟩ (fun a b c => ⟨(kn a b c, kn' a b c), h1 a b c⟩) (fun t a b c => ⟨(kj t a b c, kj' t a b c), h2 t a b c⟩) (fun v c => ⟨(kr v c, kr v c), id⟩)
  rw [← e2]
  rw [← e1] at h
  exact (z_ps sc o ins lv st m (⟨(False, False), id⟩ : {x : Prop × Prop // x.1 → x.2}) _ _ _).2 h
theorem z_okL_at {own : String} {cc : ByteArray} {nL : Nat} {ini : Bool} {rt : Option FieldType} {cd : List zI} : ∀ {l : List zI} {b : Nat}, z_okL own cc nL ini rt cd b l = true → ∀ {i : Nat} {q : zI}, l[i]? = some q → z_ok1 own cc nL ini rt cd (b + i) q = true
  | [], b, _, i, q, h => by simp at h
  | x :: t, b, hk, 0, q, h => by
    simp only [z_okL, Bool.and_eq_true] at hk
    simp at h
    subst h
    exact hk.1
  | x :: t, b, hk, i + 1, q, h => by
    simp only [z_okL, Bool.and_eq_true] at hk
    have := z_okL_at (l := t) (b := b + 1) hk.2 (i := i) (q := q) (by simpa using h)
    rw [show b + (i + 1) = b + 1 + i by omega]
    exact this
theorem z_ex_cons {sc : Option (Nat × (Nat → Int32))} {o : zO} {cd : List zI} {f ip pc pl : Nat} {ins : Instr} {rest : List zI} {lv : zL} {st : List Value} {m : zM} (h : ins ≠ .nop) : z_ex sc o cd (f + 1) ((pc, pl, ins) :: rest) ip lv st m = z_ps sc o ins lv st m none (fun lv st m => z_ex sc o cd f rest (ip + 1) lv st m) (fun t lv st m => z_ex sc o cd f (cd.drop t) t lv st m) (fun v m => some (.inl (v, m))) := by
  cases ins <;> first | rfl | exact absurd rfl h
theorem z_ex_sound (C : z_Cx p s mt args meth c own cc nL ini rt) (En : z_En sa sv A s s.heap) (hA : ∀ q, s.heap.size ≤ q → A q) (hR : z_Rm R n0 nf) {d : Nat} (hRf : d + 9 ≤ R.frames) (hRl : 60 * d + 460 ≤ R.locals) (hWD : z_WD) {o : zO} (hO : z_OS l d o) {sc : Option (Nat × (Nat → Int32))} (hsc : ∀ L xs, sc = some (L, xs) → va_X (sa 0) L xs s s.heap ∧ sa 0 < s.heap.size ∧ ¬ A (sa 0)) {Rt : Option Value → zM → Prop} (hRt : ∀ v m, Rt v m → m.1 ≤ nf ∧ ∀ (ad : Nat → Nat) (ac : Nat → ClassId) (tys : List (ClassId × FieldType)) (H : Heap) (locs : List Loc) (ls : Array Slot) (pc : Nat) (ins : Instr), z_St D A s ad0 n0 m ad ac tys H locs → z_rin rt v ins → decode cc pc = .ok (ins, 1) → W p l e R s mt args below meth c H locs (m.1 - n0) (z_sl m.1 - z_sl n0) Q (F0 mt pc ls v.toList)) (hok : z_okL own cc nL ini rt cd 0 cd = true) : ∀ (f : Nat) (rest : List zI) (ip : Nat) (lv : zL) (st : List Value) (m : zM), rest = cd.drop ip → z_Kt (fun ip lv st m => z_G p l e R s mt args below meth c Q D A sa ad0 n0 nf nL (z_pc cd) ip lv st m) Rt (z_ex sc o cd f rest ip lv st m) → z_G p l e R s mt args below meth c Q D A sa ad0 n0 nf nL (z_pc cd) ip lv st m := by
  intro f
  induction f with
  | zero => intro rest ip lv st m _ h; exact h.elim
  | succ f ih =>
    intro rest ip lv st m hrest h
    cases rest with
    | nil => exact h.elim
    | cons q rest =>
      have hq : cd[ip]? = some q := by
        have := congrArg (fun l => l[0]?) hrest
        simp at this
        exact this.symm
      have hrest2 : rest = cd.drop (ip + 1) := by
        have := congrArg List.tail hrest
        simp at this
        exact this
      have hpc : z_pc cd ip = q.1 := by simp only [z_pc, hq]
      have ho1 := z_okL_at hok hq
      rw [Nat.zero_add] at ho1
      obtain ⟨pc, pl, ins⟩ := q
      by_cases hnop : ins = .nop
      · subst hnop
        have hn : z_pc cd (ip + 1) = pc := of_decide_eq_true ho1
        have h2 : z_G p l e R s mt args below meth c Q D A sa ad0 n0 nf nL (z_pc cd) (ip + 1) lv st m := h
        refine ⟨h2.1, fun ad ac tys H locs ls hSt hl hov hvv => ?_⟩
        have h3 := h2.2 ad ac tys H locs ls hSt hl hov hvv
        rw [hn] at h3
        rw [hpc]
        exact h3
      · rw [z_ex_cons hnop] at h
        rw [z_ps_map (z_Kt (fun ip lv st m => z_G p l e R s mt args below meth c Q D A sa ad0 n0 nf nL (z_pc cd) ip lv st m) Rt)] at h
        have hd2 : z_ok1 own cc nL ini rt cd ip (pc, pl, ins) = match decode cc pc with
          | .ok (raw, len) => z_okI own nL ini rt cd ip pc pl ins raw len
          | .error _ => false := by
          cases ins <;> first | rfl | exact absurd rfl hnop
        rw [hd2] at ho1
        cases hdec : decode cc pc with
        | error e9 => rw [hdec] at ho1; cases ho1
        | ok rl =>
          obtain ⟨raw, len⟩ := rl
          rw [hdec] at ho1
          rw [show pc = z_pc cd ip from hpc.symm] at hdec ho1
          exact zq_any C En hA hR hRf hRl hWD hO hsc hdec hRt ho1 (z_ps_mono (fun a b c h9 => ih rest (ip + 1) a b c hrest2 h9) (fun t a b c h9 => ih _ t a b c rfl h9) h)
end ZS
end
section
/-! RUNS, and what calls give, by depth; a run gives the method's contract -/
def z_run (sc : Option (Nat × (Nat → Int32))) (o : zO) (cd : List zI) : Nat → Nat × zL × List Value × zM → Option (Option Value × zM)
  | 0, _ => none
  | n + 1, q => match z_ex sc o cd 4000 (cd.drop q.1) q.1 q.2.1 q.2.2.1 q.2.2.2 with
    | none => none
    | some (.inl r) => some r
    | some (.inr s) => z_run sc o cd n s
def z_lo : List Value → zL
  | [] => []
  | v :: t => cond (z_isL (some v)) (some v :: none :: z_lo t) (some v :: z_lo t)
def z_lvi (n : Nat) (as : List Value) : zL := z_lo as ++ List.replicate (n - (z_lo as).length) none
def z_R (o : zO) (k : Nat) (as : List Value) (m : zM) (r : Option Value × zM) : Prop := k < z_nm ∧ (z_lo as).length ≤ z_ml k ∧ ∃ n, z_run none o (z_cd k) n (0, z_lvi (z_ml k) as, [], m) = some r
theorem z_run_det {sc : Option (Nat × (Nat → Int32))} {o : zO} {cd : List zI} : ∀ {n n' : Nat} {q : Nat × zL × List Value × zM} {r r' : Option Value × zM}, z_run sc o cd n q = some r → z_run sc o cd n' q = some r' → r = r'
  | 0, _, _, _, _, h, _ => by simp [z_run] at h
  | _ + 1, 0, _, _, _, _, h => by simp [z_run] at h
  | n + 1, n' + 1, q, r, r', h, h' => by
    simp only [z_run] at h h'
    split at h
    · cases h
    · rename_i heq
      rw [heq] at h'
      cases h; cases h'; rfl
    · rename_i heq
      rw [heq] at h'
      exact z_run_det h h'
theorem z_R_det {o : zO} {k : Nat} {as : List Value} {m : zM} {r r' : Option Value × zM} (h : z_R o k as m r) (h' : z_R o k as m r') : r = r' := by
  obtain ⟨-, -, n, hn⟩ := h
  obtain ⟨-, -, n', hn'⟩ := h'
  exact z_run_det hn hn'
noncomputable def z_ch {α : Type} (P : α → Prop) : Option α := @dite _ (∃ a, P a) (Classical.propDecidable _) (fun h => some h.choose) (fun _ => none)
theorem z_ch_spec {α : Type} {P : α → Prop} {a : α} (h : z_ch P = some a) : P a := by
  unfold z_ch at h
  by_cases hx : ∃ a, P a
  · rw [dif_pos hx] at h
    cases h
    exact hx.choose_spec
  · rw [dif_neg hx] at h
    cases h
theorem z_ch_some {α : Type} {P : α → Prop} {a : α} (h : P a) (hu : ∀ b, P b → b = a) : z_ch P = some a := by
  have hx : ∃ a, P a := ⟨a, h⟩
  unfold z_ch
  rw [dif_pos hx, hu _ hx.choose_spec]
noncomputable def z_F : Nat → zO
  | 0 => (fun _ _ _ => none, fun _ _ _ => none, fun _ _ _ => none, fun _ _ _ => none, fun _ _ _ => none)
  | d + 1 => (fun k as m => z_ch (fun r : Int32 × zD => z_R (z_F d) k as m (some (.int r.1), (m.1, m.2.1, r.2))),
      fun k as m => z_ch (fun r : Int64 × zD => z_R (z_F d) k as m (some (.long r.1), (m.1, m.2.1, r.2))),
      fun k as m => z_ch (fun r : zD => z_R (z_F d) k as m (none, (m.1, m.2.1, r))),
      fun k as m => z_ch (fun r : zM => z_R (z_F d) k as m (none, r)),
      fun k as m => z_ch (fun r : Int32 × zM => z_R (z_F d) k as m (some (.int r.1), r.2)))
theorem z_FI {d k : Nat} {as : List Value} {m : zM} {v : Int32} {dd : zD} (h : z_R (z_F d) k as m (some (.int v), (m.1, m.2.1, dd))) : (z_F (d + 1)).1 k as m = some (v, dd) :=
  z_ch_some (P := fun r : Int32 × zD => z_R (z_F d) k as m (some (.int r.1), (m.1, m.2.1, r.2))) (a := (v, dd)) h (fun b hb => by
    have := z_R_det hb h
    obtain ⟨b1, b2⟩ := b
    simp at this
    rw [this.1, this.2])
theorem z_FJ {d k : Nat} {as : List Value} {m : zM} {v : Int64} {dd : zD} (h : z_R (z_F d) k as m (some (.long v), (m.1, m.2.1, dd))) : (z_F (d + 1)).2.1 k as m = some (v, dd) :=
  z_ch_some (P := fun r : Int64 × zD => z_R (z_F d) k as m (some (.long r.1), (m.1, m.2.1, r.2))) (a := (v, dd)) h (fun b hb => by
    have := z_R_det hb h
    obtain ⟨b1, b2⟩ := b
    simp at this
    rw [this.1, this.2])
theorem z_FV {d k : Nat} {as : List Value} {m : zM} {dd : zD} (h : z_R (z_F d) k as m (none, (m.1, m.2.1, dd))) : (z_F (d + 1)).2.2.1 k as m = some dd :=
  z_ch_some (P := fun r : zD => z_R (z_F d) k as m (none, (m.1, m.2.1, r))) (a := dd) h (fun b hb => by
    have := z_R_det hb h
    simp at this
    exact this)
theorem z_FN {d k : Nat} {as : List Value} {m m2 : zM} (h : z_R (z_F d) k as m (none, m2)) : (z_F (d + 1)).2.2.2.1 k as m = some m2 :=
  z_ch_some (P := fun r : zM => z_R (z_F d) k as m (none, r)) (a := m2) h (fun b hb => by
    have := z_R_det hb h
    simp only [Prod.mk.injEq, true_and] at this
    exact this)
theorem z_FX {d k : Nat} {as : List Value} {m m2 : zM} {v : Int32} (h : z_R (z_F d) k as m (some (.int v), m2)) : (z_F (d + 1)).2.2.2.2 k as m = some (v, m2) :=
  z_ch_some (P := fun r : Int32 × zM => z_R (z_F d) k as m (some (.int r.1), r.2)) (a := (v, m2)) h (fun b hb => by
    have h9 := z_R_det hb h
    obtain ⟨b1, b2⟩ := b
    have e1 : (some (Value.int b1) : Option Value) = some (.int v) := congrArg Prod.fst h9
    have e2 : b2 = m2 := congrArg Prod.snd h9
    cases e1
    rw [e2])
/-- the number of cells never falls -/
def z_OM (o : zO) : Prop := (∀ k as m r, o.2.2.2.1 k as m = some r → m.1 ≤ r.1) ∧ ∀ k as m r, o.2.2.2.2 k as m = some r → m.1 ≤ r.2.1
theorem z_ps_le {sc : Option (Nat × (Nat → Int32))} {o : zO} {ins : Instr} {lv : zL} {st : List Value} {m : zM} {nf : Nat} (hO : z_OM o) (h : z_ps sc o ins lv st m False (fun _ _ m => m.1 ≤ nf) (fun _ _ _ m => m.1 ≤ nf) (fun _ m => m.1 ≤ nf)) : m.1 ≤ nf := by
  cases ins with
  | new ci =>
    simp only [z_ps] at h
    cases hb : ((z_tk m.1).beq 0 && (z_tn m.1).beq ci) with
    | false => rw [hb] at h; exact h.elim
    | true => rw [hb] at h; exact Nat.le_of_succ_le h
  | invokespecial q =>
    simp only [z_ps] at h
    split at h
    · rename_i as r _
      cases hb : ((z_cs r).ble 8 && z_ref0 (q / 64000) as) with
      | false => rw [hb] at h; exact h.elim
      | true =>
        rw [hb] at h
        simp only [cond_true] at h
        cases ho : o.2.2.2.1 (q / 64 % 1000) as m with
        | none => rw [ho] at h; exact h.elim
        | some m2 => rw [ho] at h; exact Nat.le_trans (hO.1 _ _ _ _ ho) h
    · exact h.elim
  | invokeinterface q q2 =>
    simp only [z_ps] at h
    split at h
    · rename_i as r _
      cases hb : ((z_cs r).ble 8 && z_ref0 (q / 64000) as) with
      | false => rw [hb] at h; exact h.elim
      | true =>
        rw [hb] at h
        simp only [cond_true] at h
        cases ho : o.2.2.2.2 (q / 64 % 1000) as m with
        | none => rw [ho] at h; exact h.elim
        | some m2 => obtain ⟨v, m2⟩ := m2; rw [ho] at h; exact Nat.le_trans (hO.2 _ _ _ _ ho) h
    · exact h.elim
  | newarray t =>
    simp only [z_ps] at h
    split at h
    · cases hb : (z_tk m.1).beq (z_ar t) with
      | false => rw [hb] at h; exact h.elim
      | true =>
        rw [hb] at h
        simp only [cond_true] at h
        split at h
        · exact Nat.le_of_succ_le h
        · exact h.elim
    · exact h.elim
  | anewarray t =>
    simp only [z_ps] at h
    split at h
    · cases hb : (z_tk m.1).beq 5 with
      | false => rw [hb] at h; exact h.elim
      | true =>
        rw [hb] at h
        simp only [cond_true] at h
        split at h
        · exact Nat.le_of_succ_le h
        · exact h.elim
    · exact h.elim
  | tableswitch dd lo hi ts =>
    simp only [z_ps] at h
    split at h
    · rename_i x r
      generalize ts.toList = l at h
      induction l generalizing lo with
      | nil => exact h
      | cons t l ih =>
        simp only [z_tsw] at h
        split at h
        · exact h
        · exact ih (lo + 1) h
    · exact h.elim
  | _ =>
    simp only [z_ps, cond_eq_ite, z_oI, z_oJ, z_oV] at h
    repeat' first | exact h | exact h.elim | split at h
theorem z_ex_le {sc : Option (Nat × (Nat → Int32))} {o : zO} {cd : List zI} {nf : Nat} (hO : z_OM o) : ∀ (f : Nat) (rest : List zI) (ip : Nat) (lv : zL) (st : List Value) (m : zM), z_Kt (fun _ _ _ m => m.1 ≤ nf) (fun _ m => m.1 ≤ nf) (z_ex sc o cd f rest ip lv st m) → m.1 ≤ nf := by
  intro f
  induction f with
  | zero => intro rest ip lv st m h; exact h.elim
  | succ f ih =>
    intro rest ip lv st m h
    cases rest with
    | nil => exact h.elim
    | cons q rest =>
      obtain ⟨pc, pl, ins⟩ := q
      by_cases hnop : ins = .nop
      · subst hnop
        exact h
      · rw [z_ex_cons hnop, z_ps_map (z_Kt (fun _ _ _ m => m.1 ≤ nf) (fun _ m => m.1 ≤ nf))] at h
        exact z_ps_le hO (z_ps_mono (fun a b c h9 => ih _ _ a b c h9) (fun t a b c h9 => ih _ _ a b c h9) h)
theorem z_run_le {sc : Option (Nat × (Nat → Int32))} {o : zO} {cd : List zI} (hO : z_OM o) : ∀ {n : Nat} {q : Nat × zL × List Value × zM} {r : Option Value × zM}, z_run sc o cd n q = some r → q.2.2.2.1 ≤ r.2.1
  | 0, _, _, h => by simp [z_run] at h
  | n + 1, q, r, h => by
    simp only [z_run] at h
    refine z_ex_le (sc := sc) (cd := cd) hO 4000 (cd.drop q.1) q.1 q.2.1 q.2.2.1 q.2.2.2 ?_
    split at h
    · cases h
    · rename_i heq
      cases h
      rw [heq]
      exact Nat.le_refl _
    · rename_i heq
      rw [heq]
      exact z_run_le hO h
end
section
/-! a run gives the method's contract -/
def z_OK : Prop := ∀ k, k < z_nm → z_okM k = true ∧ z_hd k = true
theorem z_lo_mem {ad sa : Nat → Nat} : ∀ {as : List Value} {b k : Nat} {v : Value}, z_at (z_lo as) k = some v → (b + k, z_tr ad sa v) ∈ lv_args b (as.map (z_tr ad sa))
  | [], b, k, v, h => by simp [z_lo, z_at] at h
  | w :: t, b, k, v, h => by
    have hc : (z_tr ad sa w).category = w.category := z_tr_cat ad sa w
    cases hL : z_isL (some w) with
    | true =>
      simp only [z_lo, hL, cond_true] at h
      have hcat : w.category = 2 := by cases w <;> first | rfl | cases hL
      show (b + k, z_tr ad sa v) ∈ (b, z_tr ad sa w) :: lv_args (if (z_tr ad sa w).category = 2 then b + 2 else b + 1) (t.map (z_tr ad sa))
      rw [hc, if_pos hcat]
      match k, h with
      | 0, h => simp only [z_at] at h; cases h; exact List.mem_cons_self
      | 1, h => simp [z_at] at h
      | k + 2, h =>
        have h2 : z_at (z_lo t) k = some v := h
        have := z_lo_mem (ad := ad) (sa := sa) (as := t) (b := b + 2) h2
        rw [show b + (k + 2) = b + 2 + k by omega]
        exact List.mem_cons_of_mem _ this
    | false =>
      simp only [z_lo, hL, cond_false] at h
      have hcat : ¬ w.category = 2 := by cases w <;> first | (simp [z_isL] at hL; done) | (intro q; cases q; done)
      show (b + k, z_tr ad sa v) ∈ (b, z_tr ad sa w) :: lv_args (if (z_tr ad sa w).category = 2 then b + 2 else b + 1) (t.map (z_tr ad sa))
      rw [hc, if_neg hcat]
      match k, h with
      | 0, h => simp only [z_at] at h; cases h; exact List.mem_cons_self
      | k + 1, h =>
        have h2 : z_at (z_lo t) k = some v := h
        have := z_lo_mem (ad := ad) (sa := sa) (as := t) (b := b + 1) h2
        rw [show b + (k + 1) = b + 1 + k by omega]
        exact List.mem_cons_of_mem _ this
theorem z_lo_sl {ad sa : Nat → Nat} : ∀ (as : List Value), (lg_sl (as.map (z_tr ad sa))).length = (z_lo as).length
  | [] => rfl
  | w :: t => by
    have ih := z_lo_sl (ad := ad) (sa := sa) t
    cases w <;> simp [lg_sl, z_lo, z_isL, z_tr, Value.category] at ih ⊢ <;> omega
theorem z_at_app {a b : zL} {k : Nat} {v : Value} (h : z_at (a ++ b) k = some v) (hb : ∀ j, z_at b j = none) : z_at a k = some v := by
  rw [z_at_eq] at h ⊢
  rcases Nat.lt_or_ge k a.length with g | g
  · rw [List.getElem?_append_left g] at h; exact h
  · rw [List.getElem?_append_right g] at h
    have := hb (k - a.length)
    rw [z_at_eq] at this
    rw [this] at h; cases h
theorem z_at_rep (n j : Nat) : z_at (List.replicate n none) j = none := by
  rw [z_at_eq, List.getElem?_replicate]
  split <;> rfl
theorem z_lvi_at {n k : Nat} {as : List Value} {v : Value} (h : z_at (z_lvi n as) k = some v) : z_at (z_lo as) k = some v := z_at_app h (z_at_rep _)
theorem z_lo_ok {n : Nat} : ∀ {as : List Value}, (∀ v ∈ as, z_okv n v) → ∀ k v, z_at (z_lo as) k = some v → z_okv n v
  | [], _, k, v, h => by simp [z_lo, z_at] at h
  | w :: t, ho, k, v, h => by
    have ih := z_lo_ok (n := n) (as := t) (fun v hv => ho v (List.mem_cons_of_mem _ hv))
    cases hL : z_isL (some w) with
    | true =>
      simp only [z_lo, hL, cond_true] at h
      match k, h with
      | 0, h => simp only [z_at] at h; cases h; exact ho _ List.mem_cons_self
      | 1, h => simp [z_at] at h
      | k + 2, h => exact ih k v h
    | false =>
      simp only [z_lo, hL, cond_false] at h
      match k, h with
      | 0, h => simp only [z_at] at h; cases h; exact ho _ List.mem_cons_self
      | k + 1, h => exact ih k v h
section ZS
variable {p : Program} {l : Launch} {e : Env} {R : Room} {s : State} {mt : MethodId} {args : Array Value} {below : List Frame} {meth : Method} {c : Code} {Q : State → Prop} {D : va_G} {A : Nat → Prop} {sa sv ad0 : Nat → Nat} {n0 nf nL : Nat} {cd : List zI} {own : String} {cc : ByteArray} {ini : Bool} {rt : Option FieldType}
theorem z_run_sound (C : z_Cx p s mt args meth c own cc nL ini rt) (En : z_En sa sv A s s.heap) (hA : ∀ q, s.heap.size ≤ q → A q) (hR : z_Rm R n0 nf) {d : Nat} (hRf : d + 9 ≤ R.frames) (hRl : 60 * d + 460 ≤ R.locals) (hWD : z_WD) {o : zO} (hO : z_OS l d o) {sc : Option (Nat × (Nat → Int32))} (hsc : ∀ L xs, sc = some (L, xs) → va_X (sa 0) L xs s s.heap ∧ sa 0 < s.heap.size ∧ ¬ A (sa 0)) {Rt : Option Value → zM → Prop}
    (hRt : ∀ v m, Rt v m → m.1 ≤ nf ∧ ∀ (ad : Nat → Nat) (ac : Nat → ClassId) (tys : List (ClassId × FieldType)) (H : Heap) (locs : List Loc) (ls : Array Slot) (pc : Nat) (ins : Instr), z_St D A s ad0 n0 m ad ac tys H locs → z_rin rt v ins → decode cc pc = .ok (ins, 1) → W p l e R s mt args below meth c H locs (m.1 - n0) (z_sl m.1 - z_sl n0) Q (F0 mt pc ls v.toList))
    (hok : z_okL own cc nL ini rt cd 0 cd = true) : ∀ (n : Nat) (q : Nat × zL × List Value × zM) (r : Option Value × zM), z_run sc o cd n q = some r → Rt r.1 r.2 → z_G p l e R s mt args below meth c Q D A sa ad0 n0 nf nL (z_pc cd) q.1 q.2.1 q.2.2.1 q.2.2.2 := by
  intro n
  induction n with
  | zero => intro q r h; simp [z_run] at h
  | succ n ih =>
    intro q r h hr
    refine z_ex_sound C En hA hR hRf hRl hWD hO hsc hRt hok 4000 _ q.1 q.2.1 q.2.2.1 q.2.2.2 rfl ?_
    simp only [z_run] at h
    split at h
    · cases h
    · rename_i heq
      cases h
      rw [heq]
      exact hr
    · rename_i heq
      rw [heq]
      exact ih _ _ h hr
end ZS
theorem z_met {l : Launch} {d k : Nat} {as : List Value} {m m' : zM} {v : Option Value} (hWD : z_WD) (hOK : z_OK) (hO : z_OS l d (z_F d)) (hvk : v = none ∨ (∃ x, v = some (.int x)) ∨ ∃ x, v = some (.long x)) (h : z_R (z_F d) k as m (v, m')) : z_Met l (d + 1) k as m v m' := by
  obtain ⟨hk, hlen, n, hrun⟩ := h
  have hwd := hWD k hk
  have hwd2 := hwd
  simp only [z_wdM, Bool.and_eq_true, decide_eq_true_eq] at hwd2
  have hle : m.1 ≤ m'.1 := z_run_le ⟨fun k as m r h9 => (hO.2.2.2.1 k as m r h9).1, fun k as m r h9 => (hO.2.2.2.2 k as m r h9).1⟩ hrun
  refine ⟨hle, fun D sa sv ad ac tys sz => ?_⟩
  refine Met.ofW (cc := z_by k) (maxL := z_ml k) (ret := z_rty k) hwd2.1.2 rfl ?_
  intro p e s mt args below meth c s₁ B hml hv
  obtain ⟨rfl, hsz, hP, hK, hD0, hty, hw, ho, hE⟩ := hv
  subst hsz
  have hts := atoms_spec (ws := z_ws0 k) B.pre
  have hown : s.vm.findClass (z_y k).cls = some mt.cls := findClass_of_methodNamed B.named
  have hnm := (name_of_methodNamed B.named B.method).1
  have C : z_Cx p s mt (as.map (z_tr ad sa)).toArray meth c (z_y k).cls (z_by k) (z_ml k) (decide ((z_y k).name = "<init>")) (z_rty k) := ⟨B.exec, B.bytes, B.returns, hml, hown, fun w h9 => hts w (List.mem_cons_of_mem _ h9), B.notSynchronized, fun h9 => hnm.trans (of_decide_eq_true h9)⟩
  have hD : va_D (va_A (z_ws ad ac m) s.heap.size) (z_ws ad ac m) := hD0.self (sz := s.heap.size)
  have hA : ∀ q : Nat, s.heap.size ≤ q → va_A (z_ws ad ac m) s.heap.size q := fun q h9 => Or.inr h9
  have hS : va_S (va_A (z_ws ad ac m) s.heap.size) s.heap s.heap [] := va_S.rf
  have hRm : z_Rm (headSpec (z_ws0 k) (z_rm (d + 1) (m'.1 - m.1) (z_sl m'.1 - z_sl m.1))).room m.1 m'.1 := ⟨Nat.le_refl _, Nat.le_refl _, (by show 8 ≤ d + 1 + 8; omega), (by show 400 ≤ 60 * (d + 1) + 400; omega)⟩
  have key := z_run_sound (l := l) (e := e) (below := below) (R := (headSpec (z_ws0 k) (z_rm (d + 1) (m'.1 - m.1) (z_sl m'.1 - z_sl m.1))).room) (D := D) (ad0 := ad) (n0 := m.1) (nf := m'.1) (Q := MQ below (z_Qc D ad m.1 v m' (va_A (z_ws ad ac m) s.heap.size)) (as.map (z_tr ad sa)).toArray s (m'.1 - m.1) (z_sl m'.1 - z_sl m.1) (va_A (z_ws ad ac m) s.heap.size)) C hE hA hRm (d := d) (by show d + 9 ≤ d + 1 + 8; omega) (by show 60 * d + 460 ≤ 60 * (d + 1) + 400; omega) hWD hO (sc := none) (fun L xs h9 => by cases h9) (Rt := fun v9 m9 => v9 = v ∧ m9 = m') ?_ (hOK k hk).1 n _ (v, m') hrun ⟨rfl, rfl⟩
  · have hl := lv_entry (as.map (z_tr ad sa)) (n := z_ml k) (by rw [z_lo_sl]; exact hlen)
    rw [lg_entry_eq]
    generalize (lg_sl (as.map (z_tr ad sa)) ++ List.replicate (z_ml k - (lg_sl (as.map (z_tr ad sa))).length) Slot.unset).toArray = ls at hl ⊢
    have h2 := key.2 ad ac tys s.heap [] ls ⟨hK, hP, hD, hS, hty, hw, Nat.le_refl _, fun _ _ => rfl⟩ ⟨hl.1, hl.2.1, by simp only [z_lvi, List.length_append, List.length_replicate]; omega, fun j w h9 => by
      have h8 := z_lo_mem (ad := ad) (sa := sa) (b := 0) (z_lvi_at h9)
      rw [Nat.zero_add] at h8
      exact hl.2.2 _ h8⟩ (fun w h9 => absurd h9 List.not_mem_nil) (fun j w h9 => z_lo_ok ho j w (z_lvi_at h9))
    have e0 : z_pc (z_cd k) 0 = 0 := of_decide_eq_true (hOK k hk).2
    simp only [Nat.sub_self] at h2
    rw [e0] at h2
    exact h2
  · rintro v9 m9 ⟨rfl, rfl⟩
    refine ⟨Nat.le_refl _, fun ad' ac' tys' H locs ls pc ins hSt hri hdg => ?_⟩
    obtain ⟨k1, p1, d1, s1, t1, w1, n1, a1⟩ := hSt
    rcases hvk with rfl | ⟨x, rfl⟩ | ⟨x, rfl⟩
    · obtain ⟨rfl, hrt⟩ := hri
      exact W.vret C.1 C.2.1 (B.returns.trans hrt) (fun t ht hW => ⟨⟨(), rfl, rfl, ad', ac', tys', va_K.moved hW.alike k1, by rw [ht]; exact p1, d1, t1, w1, a1⟩, s1.F ht⟩) s1.2.2 hdg
    · obtain ⟨rfl, hrt⟩ := hri
      have hq : ∀ t : State, t.heap = H → s.WarmedH t.vm → z_Qc D ad m.1 (some (.int x)) m9 (va_A (z_ws ad ac m) s.heap.size) (as.map (z_tr ad sa)).toArray s (.returned (some (.int x))) t := fun t ht hW => ⟨⟨x, (), rfl, rfl, ad', ac', tys', va_K.moved hW.alike k1, by rw [ht]; exact p1, d1, t1, w1, a1⟩, s1.F ht⟩
      rcases hrt with hrt | ⟨hrt, hx⟩
      · exact W.zret C.1 C.2.1 (B.returns.trans hrt) rfl hq s1.2.2 hdg
      · exact W.zret C.1 C.2.1 (B.returns.trans hrt) (by rcases hx with rfl | rfl <;> rfl) hq s1.2.2 hdg
    · obtain ⟨rfl, hrt⟩ := hri
      exact W.lret C.1 C.2.1 (B.returns.trans hrt) (fun t ht hW => ⟨⟨x, (), rfl, rfl, ad', ac', tys', va_K.moved hW.alike k1, by rw [ht]; exact p1, d1, t1, w1, a1⟩, s1.F ht⟩) s1.2.2 hdg
theorem z_FS (l : Launch) (hWD : z_WD) (hOK : z_OK) : ∀ d, z_OS l d (z_F d) := by
  intro d
  induction d with
  | zero => exact ⟨fun k as m r h => (by cases h), fun k as m r h => (by cases h), fun k as m r h => (by cases h), fun k as m r h => (by cases h), fun k as m r h => (by cases h)⟩
  | succ d ih =>
    refine ⟨fun k as m r h => ?_, fun k as m r h => ?_, fun k as m r h => ?_, fun k as m r h => ?_, fun k as m r h => ?_⟩
    · exact z_met hWD hOK ih (Or.inr (Or.inl ⟨_, rfl⟩)) (z_ch_spec (P := fun r : Int32 × zD => z_R (z_F d) k as m (some (.int r.1), (m.1, m.2.1, r.2))) h)
    · exact z_met hWD hOK ih (Or.inr (Or.inr ⟨_, rfl⟩)) (z_ch_spec (P := fun r : Int64 × zD => z_R (z_F d) k as m (some (.long r.1), (m.1, m.2.1, r.2))) h)
    · exact z_met hWD hOK ih (Or.inl rfl) (z_ch_spec (P := fun r : zD => z_R (z_F d) k as m (none, (m.1, m.2.1, r))) h)
    · exact z_met hWD hOK ih (Or.inl rfl) (z_ch_spec (P := fun r : zM => z_R (z_F d) k as m (none, r)) h)
    · exact z_met hWD hOK ih (Or.inr (Or.inl ⟨_, rfl⟩)) (z_ch_spec (P := fun r : Int32 × zM => z_R (z_F d) k as m (some (.int r.1), r.2)) h)
theorem z_wd : z_WD := fun k hk => by
  have h := z_wkk k hk
  simp only [Bool.and_eq_true] at h
  exact h.1
theorem z_ok : z_OK := fun k hk => by
  have h := z_wkk k hk
  simp only [Bool.and_eq_true] at h
  exact ⟨z_okk k hk, h.2⟩
end
section
theorem z_lw : z_okL "LongBoatsLaw" code 4 false (some .boolean) cd_Law_law 0 cd_Law_law = true := sorry
end
section
-- ===== end of PART A; then your names; then what follows =====
/-! THE CLAIM OUT OF ONE WALK OF THE LAW'S BODY. Your part is whole_start (and what it stands on); all else here is the same for every law, but numbers. -/
def R_law : String := "LongBoatsLaw"
def lw_P (b : Addr) (xs : List Int32) (args : Array Value) (s : State) : Prop := args = #[.ref b] ∧ s.IntsAt b xs ∧ xs.length ≤ 4096 ∧ (Jvm.Cond.and given_1 narrow_1).before args s = true
def lw_Q (_ : Array Value) (s : State) (o : Outcome) (t : State) : Prop := o = .returned (some (.int 1)) ∧ Framed s o t [] 600000 7302250
def lw_Z (below : List Frame) (a : Array Value) (s : State) : State → Prop := fun t => ∃ o, t.status = .running ∧ Ended t below o ∧ lw_Q a s o t
/-- the law's own end, with 1 on the stack, nothing written that was there before, its room as the claim has it -/
theorem lw_ret {p : Program} {l : Launch} {e : Env} {s : State} {m : MethodId} {below : List Frame} {meth : Method} {c : Code} {b : Nat} (hx : p.tables.exec = Jvm.exec) (hb : c.code = code) (hr : meth.sig.returnType = ret) (hlocks : meth.locks = false) {pc : Nat} {H : Heap} {ls : Array Slot} (hdg : decode code pc = .ok (.ireturn, 1)) : W p l e room_1 s m #[Value.ref b] below meth c H [] 600000 7302250 (lw_Z below #[Value.ref b] s) (F0 m pc ls [.int 1]) := by
  intro T hT X
  obtain ⟨fs, hret, hrun, hended, hW, hframe⟩ := X.leave (v := some (.int 1)) (hlocks := hlocks) (fun h => by rw [hr] at h; cases h)
  have hmeth' : T.vm.method? m = some meth := X.method'
  refine ⟨T.setFrames fs, ?_, .returned (some (.int 1)), hrun, hended, rfl, ⟨_, rfl⟩, hW, hframe⟩
  jvm_step X.here [X.here.top, hx, hb, hdg, hmeth', hr, ret, narrow_b1]
  (try refine ⟨rfl, ?_⟩); (try refine ⟨rfl, ?_⟩)
  first | (intro acts; rw [hret _ acts rfl rfl rfl]) | rw [hret _ _ rfl rfl rfl]
  exact Steps.refl _
/-- what holds at the law's entry: the machine, the code, the tables' words (any of lw_tbl by 'hts w (by decide +kernel)'), the script of L ints xs at the cell b, what the Statement gives of the start (any of its parts by flat_of_before) -/
def lw_At (p : Program) (s : State) (m : MethodId) (meth : Method) (c : Code) (b L : Nat) (xs : Nat → Int32) : Prop :=
  p.tables.exec = Jvm.exec ∧ c.code = code ∧ meth.sig.returnType = ret ∧ c.maxLocals = 4 ∧ s.vm.findClass R_law = some m.cls ∧ (∀ w ∈ lw_tbl, w.before #[Value.ref b] s = true) ∧ va_X b L xs s s.heap ∧ b < s.heap.size ∧ meth.locks = false ∧ (Jvm.Cond.and given_1 narrow_1).before #[Value.ref b] s = true
/-! the claim out of a pure run of the law -/
def z_spl : List Nat := [0, 1573, 1574, 1575, 1576, 1577, 1578, 1579, 1580, 1581, 1566, 1557, 1558, 1559, 1560, 1561, 1567, 1568, 1523, 1542, 1551, 1552, 618, 624, 639, 671, 713, 549, 610, 616, 617, 623, 629, 638, 644, 659, 660, 661, 662, 663, 668, 669, 670]
abbrev z_FC : List Cond := flatC (Jvm.Cond.and given_1 narrow_1)
def z_stm (k : Nat) : Term := .string (z_sk k).1 (z_sk k).2.1
theorem z_sp1 : ∀ k ∈ List.range 43, 0 < k → lw_tbl[z_spl.getD k 0]? = some (Cond.stringRef (z_sk k).1 (z_sk k).2.1 (z_sk k).2.2) := by decide +kernel
def z_SP (k : Nat) : Prop := Cond.exactly (z_stm k) "java/lang/String" ∈ z_FC ∧ Cond.eq (.field (z_stm k) "java/lang/String" "coder" "B") (.int 0) ∈ z_FC ∧ Cond.arrayOf (.field (z_stm k) "java/lang/String" "value" "[B") .byte ∈ z_FC ∧ Cond.eq (.length (.field (z_stm k) "java/lang/String" "value" "[B")) (.int (Int32.ofNat (z_tx k).length)) ∈ z_FC ∧ ∀ j : Nat, j < (z_tx k).length → Cond.eq (.elem (.field (z_stm k) "java/lang/String" "value" "[B") (.int (Int32.ofNat j))) (.int ((z_tx k).getD j 0)) ∈ z_FC
theorem z_sp2_1 : z_SP 1 := ⟨List.mem_of_getElem? (i := 303) (by decide +kernel), List.mem_of_getElem? (i := 304) (by decide +kernel), List.mem_of_getElem? (i := 305) (by decide +kernel), List.mem_of_getElem? (i := 306) (by decide +kernel), fun j hj => by
  match j, hj with
  | 0, _ => exact List.mem_of_getElem? (i := 307) (by decide +kernel)
  | 1, _ => exact List.mem_of_getElem? (i := 308) (by decide +kernel)
  | 2, _ => exact List.mem_of_getElem? (i := 309) (by decide +kernel)
  | 3, _ => exact List.mem_of_getElem? (i := 310) (by decide +kernel)
  | 4, _ => exact List.mem_of_getElem? (i := 311) (by decide +kernel)
  | 5, _ => exact List.mem_of_getElem? (i := 312) (by decide +kernel)
  | j + 6, hj => exact absurd hj (by show ¬ j + 6 < 6; omega)⟩
theorem z_sp2_2 : z_SP 2 := ⟨List.mem_of_getElem? (i := 314) (by decide +kernel), List.mem_of_getElem? (i := 315) (by decide +kernel), List.mem_of_getElem? (i := 316) (by decide +kernel), List.mem_of_getElem? (i := 317) (by decide +kernel), fun j hj => by
  match j, hj with
  | 0, _ => exact List.mem_of_getElem? (i := 318) (by decide +kernel)
  | 1, _ => exact List.mem_of_getElem? (i := 319) (by decide +kernel)
  | 2, _ => exact List.mem_of_getElem? (i := 320) (by decide +kernel)
  | 3, _ => exact List.mem_of_getElem? (i := 321) (by decide +kernel)
  | 4, _ => exact List.mem_of_getElem? (i := 322) (by decide +kernel)
  | j + 5, hj => exact absurd hj (by show ¬ j + 5 < 5; omega)⟩
theorem z_sp2_3 : z_SP 3 := ⟨List.mem_of_getElem? (i := 324) (by decide +kernel), List.mem_of_getElem? (i := 325) (by decide +kernel), List.mem_of_getElem? (i := 326) (by decide +kernel), List.mem_of_getElem? (i := 327) (by decide +kernel), fun j hj => by
  match j, hj with
  | 0, _ => exact List.mem_of_getElem? (i := 328) (by decide +kernel)
  | 1, _ => exact List.mem_of_getElem? (i := 329) (by decide +kernel)
  | 2, _ => exact List.mem_of_getElem? (i := 330) (by decide +kernel)
  | 3, _ => exact List.mem_of_getElem? (i := 331) (by decide +kernel)
  | 4, _ => exact List.mem_of_getElem? (i := 332) (by decide +kernel)
  | j + 5, hj => exact absurd hj (by show ¬ j + 5 < 5; omega)⟩
theorem z_sp2_4 : z_SP 4 := ⟨List.mem_of_getElem? (i := 334) (by decide +kernel), List.mem_of_getElem? (i := 335) (by decide +kernel), List.mem_of_getElem? (i := 336) (by decide +kernel), List.mem_of_getElem? (i := 337) (by decide +kernel), fun j hj => by
  match j, hj with
  | 0, _ => exact List.mem_of_getElem? (i := 338) (by decide +kernel)
  | 1, _ => exact List.mem_of_getElem? (i := 339) (by decide +kernel)
  | 2, _ => exact List.mem_of_getElem? (i := 340) (by decide +kernel)
  | 3, _ => exact List.mem_of_getElem? (i := 341) (by decide +kernel)
  | 4, _ => exact List.mem_of_getElem? (i := 342) (by decide +kernel)
  | j + 5, hj => exact absurd hj (by show ¬ j + 5 < 5; omega)⟩
theorem z_sp2_5 : z_SP 5 := ⟨List.mem_of_getElem? (i := 344) (by decide +kernel), List.mem_of_getElem? (i := 345) (by decide +kernel), List.mem_of_getElem? (i := 346) (by decide +kernel), List.mem_of_getElem? (i := 347) (by decide +kernel), fun j hj => by
  match j, hj with
  | 0, _ => exact List.mem_of_getElem? (i := 348) (by decide +kernel)
  | 1, _ => exact List.mem_of_getElem? (i := 349) (by decide +kernel)
  | 2, _ => exact List.mem_of_getElem? (i := 350) (by decide +kernel)
  | 3, _ => exact List.mem_of_getElem? (i := 351) (by decide +kernel)
  | 4, _ => exact List.mem_of_getElem? (i := 352) (by decide +kernel)
  | j + 5, hj => exact absurd hj (by show ¬ j + 5 < 5; omega)⟩
theorem z_sp2_6 : z_SP 6 := ⟨List.mem_of_getElem? (i := 354) (by decide +kernel), List.mem_of_getElem? (i := 355) (by decide +kernel), List.mem_of_getElem? (i := 356) (by decide +kernel), List.mem_of_getElem? (i := 357) (by decide +kernel), fun j hj => by
  match j, hj with
  | 0, _ => exact List.mem_of_getElem? (i := 358) (by decide +kernel)
  | 1, _ => exact List.mem_of_getElem? (i := 359) (by decide +kernel)
  | 2, _ => exact List.mem_of_getElem? (i := 360) (by decide +kernel)
  | 3, _ => exact List.mem_of_getElem? (i := 361) (by decide +kernel)
  | j + 4, hj => exact absurd hj (by show ¬ j + 4 < 4; omega)⟩
theorem z_sp2_7 : z_SP 7 := ⟨List.mem_of_getElem? (i := 363) (by decide +kernel), List.mem_of_getElem? (i := 364) (by decide +kernel), List.mem_of_getElem? (i := 365) (by decide +kernel), List.mem_of_getElem? (i := 366) (by decide +kernel), fun j hj => by
  match j, hj with
  | 0, _ => exact List.mem_of_getElem? (i := 367) (by decide +kernel)
  | 1, _ => exact List.mem_of_getElem? (i := 368) (by decide +kernel)
  | 2, _ => exact List.mem_of_getElem? (i := 369) (by decide +kernel)
  | 3, _ => exact List.mem_of_getElem? (i := 370) (by decide +kernel)
  | 4, _ => exact List.mem_of_getElem? (i := 371) (by decide +kernel)
  | 5, _ => exact List.mem_of_getElem? (i := 372) (by decide +kernel)
  | j + 6, hj => exact absurd hj (by show ¬ j + 6 < 6; omega)⟩
theorem z_sp2_8 : z_SP 8 := ⟨List.mem_of_getElem? (i := 374) (by decide +kernel), List.mem_of_getElem? (i := 375) (by decide +kernel), List.mem_of_getElem? (i := 376) (by decide +kernel), List.mem_of_getElem? (i := 377) (by decide +kernel), fun j hj => by
  match j, hj with
  | 0, _ => exact List.mem_of_getElem? (i := 378) (by decide +kernel)
  | 1, _ => exact List.mem_of_getElem? (i := 379) (by decide +kernel)
  | 2, _ => exact List.mem_of_getElem? (i := 380) (by decide +kernel)
  | 3, _ => exact List.mem_of_getElem? (i := 381) (by decide +kernel)
  | 4, _ => exact List.mem_of_getElem? (i := 382) (by decide +kernel)
  | 5, _ => exact List.mem_of_getElem? (i := 383) (by decide +kernel)
  | j + 6, hj => exact absurd hj (by show ¬ j + 6 < 6; omega)⟩
theorem z_sp2_9 : z_SP 9 := ⟨List.mem_of_getElem? (i := 385) (by decide +kernel), List.mem_of_getElem? (i := 386) (by decide +kernel), List.mem_of_getElem? (i := 387) (by decide +kernel), List.mem_of_getElem? (i := 388) (by decide +kernel), fun j hj => by
  match j, hj with
  | 0, _ => exact List.mem_of_getElem? (i := 389) (by decide +kernel)
  | 1, _ => exact List.mem_of_getElem? (i := 390) (by decide +kernel)
  | 2, _ => exact List.mem_of_getElem? (i := 391) (by decide +kernel)
  | 3, _ => exact List.mem_of_getElem? (i := 392) (by decide +kernel)
  | j + 4, hj => exact absurd hj (by show ¬ j + 4 < 4; omega)⟩
theorem z_sp2_10 : z_SP 10 := ⟨List.mem_of_getElem? (i := 278) (by decide +kernel), List.mem_of_getElem? (i := 279) (by decide +kernel), List.mem_of_getElem? (i := 280) (by decide +kernel), List.mem_of_getElem? (i := 281) (by decide +kernel), fun j hj => by
  match j, hj with
  | 0, _ => exact List.mem_of_getElem? (i := 282) (by decide +kernel)
  | 1, _ => exact List.mem_of_getElem? (i := 283) (by decide +kernel)
  | j + 2, hj => exact absurd hj (by show ¬ j + 2 < 2; omega)⟩
theorem z_sp2_11 : z_SP 11 := ⟨List.mem_of_getElem? (i := 233) (by decide +kernel), List.mem_of_getElem? (i := 234) (by decide +kernel), List.mem_of_getElem? (i := 235) (by decide +kernel), List.mem_of_getElem? (i := 236) (by decide +kernel), fun j hj => by
  match j, hj with
  | 0, _ => exact List.mem_of_getElem? (i := 237) (by decide +kernel)
  | 1, _ => exact List.mem_of_getElem? (i := 238) (by decide +kernel)
  | 2, _ => exact List.mem_of_getElem? (i := 239) (by decide +kernel)
  | 3, _ => exact List.mem_of_getElem? (i := 240) (by decide +kernel)
  | 4, _ => exact List.mem_of_getElem? (i := 241) (by decide +kernel)
  | j + 5, hj => exact absurd hj (by show ¬ j + 5 < 5; omega)⟩
theorem z_sp2_12 : z_SP 12 := ⟨List.mem_of_getElem? (i := 243) (by decide +kernel), List.mem_of_getElem? (i := 244) (by decide +kernel), List.mem_of_getElem? (i := 245) (by decide +kernel), List.mem_of_getElem? (i := 246) (by decide +kernel), fun j hj => by
  match j, hj with
  | 0, _ => exact List.mem_of_getElem? (i := 247) (by decide +kernel)
  | 1, _ => exact List.mem_of_getElem? (i := 248) (by decide +kernel)
  | 2, _ => exact List.mem_of_getElem? (i := 249) (by decide +kernel)
  | 3, _ => exact List.mem_of_getElem? (i := 250) (by decide +kernel)
  | j + 4, hj => exact absurd hj (by show ¬ j + 4 < 4; omega)⟩
theorem z_sp2_13 : z_SP 13 := ⟨List.mem_of_getElem? (i := 252) (by decide +kernel), List.mem_of_getElem? (i := 253) (by decide +kernel), List.mem_of_getElem? (i := 254) (by decide +kernel), List.mem_of_getElem? (i := 255) (by decide +kernel), fun j hj => by
  match j, hj with
  | 0, _ => exact List.mem_of_getElem? (i := 256) (by decide +kernel)
  | 1, _ => exact List.mem_of_getElem? (i := 257) (by decide +kernel)
  | 2, _ => exact List.mem_of_getElem? (i := 258) (by decide +kernel)
  | j + 3, hj => exact absurd hj (by show ¬ j + 3 < 3; omega)⟩
theorem z_sp2_14 : z_SP 14 := ⟨List.mem_of_getElem? (i := 260) (by decide +kernel), List.mem_of_getElem? (i := 261) (by decide +kernel), List.mem_of_getElem? (i := 262) (by decide +kernel), List.mem_of_getElem? (i := 263) (by decide +kernel), fun j hj => by
  match j, hj with
  | 0, _ => exact List.mem_of_getElem? (i := 264) (by decide +kernel)
  | 1, _ => exact List.mem_of_getElem? (i := 265) (by decide +kernel)
  | 2, _ => exact List.mem_of_getElem? (i := 266) (by decide +kernel)
  | 3, _ => exact List.mem_of_getElem? (i := 267) (by decide +kernel)
  | j + 4, hj => exact absurd hj (by show ¬ j + 4 < 4; omega)⟩
theorem z_sp2_15 : z_SP 15 := ⟨List.mem_of_getElem? (i := 269) (by decide +kernel), List.mem_of_getElem? (i := 270) (by decide +kernel), List.mem_of_getElem? (i := 271) (by decide +kernel), List.mem_of_getElem? (i := 272) (by decide +kernel), fun j hj => by
  match j, hj with
  | 0, _ => exact List.mem_of_getElem? (i := 273) (by decide +kernel)
  | 1, _ => exact List.mem_of_getElem? (i := 274) (by decide +kernel)
  | 2, _ => exact List.mem_of_getElem? (i := 275) (by decide +kernel)
  | 3, _ => exact List.mem_of_getElem? (i := 276) (by decide +kernel)
  | j + 4, hj => exact absurd hj (by show ¬ j + 4 < 4; omega)⟩
theorem z_sp2_16 : z_SP 16 := ⟨List.mem_of_getElem? (i := 285) (by decide +kernel), List.mem_of_getElem? (i := 286) (by decide +kernel), List.mem_of_getElem? (i := 287) (by decide +kernel), List.mem_of_getElem? (i := 288) (by decide +kernel), fun j hj => by
  match j, hj with
  | 0, _ => exact List.mem_of_getElem? (i := 289) (by decide +kernel)
  | 1, _ => exact List.mem_of_getElem? (i := 290) (by decide +kernel)
  | 2, _ => exact List.mem_of_getElem? (i := 291) (by decide +kernel)
  | 3, _ => exact List.mem_of_getElem? (i := 292) (by decide +kernel)
  | j + 4, hj => exact absurd hj (by show ¬ j + 4 < 4; omega)⟩
theorem z_sp2_17 : z_SP 17 := ⟨List.mem_of_getElem? (i := 294) (by decide +kernel), List.mem_of_getElem? (i := 295) (by decide +kernel), List.mem_of_getElem? (i := 296) (by decide +kernel), List.mem_of_getElem? (i := 297) (by decide +kernel), fun j hj => by
  match j, hj with
  | 0, _ => exact List.mem_of_getElem? (i := 298) (by decide +kernel)
  | 1, _ => exact List.mem_of_getElem? (i := 299) (by decide +kernel)
  | 2, _ => exact List.mem_of_getElem? (i := 300) (by decide +kernel)
  | 3, _ => exact List.mem_of_getElem? (i := 301) (by decide +kernel)
  | j + 4, hj => exact absurd hj (by show ¬ j + 4 < 4; omega)⟩
theorem z_sp2_18 : z_SP 18 := ⟨List.mem_of_getElem? (i := 191) (by decide +kernel), List.mem_of_getElem? (i := 192) (by decide +kernel), List.mem_of_getElem? (i := 193) (by decide +kernel), List.mem_of_getElem? (i := 194) (by decide +kernel), fun j hj => by
  match j, hj with
  | 0, _ => exact List.mem_of_getElem? (i := 195) (by decide +kernel)
  | 1, _ => exact List.mem_of_getElem? (i := 196) (by decide +kernel)
  | 2, _ => exact List.mem_of_getElem? (i := 197) (by decide +kernel)
  | 3, _ => exact List.mem_of_getElem? (i := 198) (by decide +kernel)
  | 4, _ => exact List.mem_of_getElem? (i := 199) (by decide +kernel)
  | 5, _ => exact List.mem_of_getElem? (i := 200) (by decide +kernel)
  | 6, _ => exact List.mem_of_getElem? (i := 201) (by decide +kernel)
  | j + 7, hj => exact absurd hj (by show ¬ j + 7 < 7; omega)⟩
theorem z_sp2_19 : z_SP 19 := ⟨List.mem_of_getElem? (i := 203) (by decide +kernel), List.mem_of_getElem? (i := 204) (by decide +kernel), List.mem_of_getElem? (i := 205) (by decide +kernel), List.mem_of_getElem? (i := 206) (by decide +kernel), fun j hj => by
  match j, hj with
  | 0, _ => exact List.mem_of_getElem? (i := 207) (by decide +kernel)
  | 1, _ => exact List.mem_of_getElem? (i := 208) (by decide +kernel)
  | 2, _ => exact List.mem_of_getElem? (i := 209) (by decide +kernel)
  | 3, _ => exact List.mem_of_getElem? (i := 210) (by decide +kernel)
  | 4, _ => exact List.mem_of_getElem? (i := 211) (by decide +kernel)
  | 5, _ => exact List.mem_of_getElem? (i := 212) (by decide +kernel)
  | j + 6, hj => exact absurd hj (by show ¬ j + 6 < 6; omega)⟩
theorem z_sp2_20 : z_SP 20 := ⟨List.mem_of_getElem? (i := 214) (by decide +kernel), List.mem_of_getElem? (i := 215) (by decide +kernel), List.mem_of_getElem? (i := 216) (by decide +kernel), List.mem_of_getElem? (i := 217) (by decide +kernel), fun j hj => by
  match j, hj with
  | 0, _ => exact List.mem_of_getElem? (i := 218) (by decide +kernel)
  | 1, _ => exact List.mem_of_getElem? (i := 219) (by decide +kernel)
  | 2, _ => exact List.mem_of_getElem? (i := 220) (by decide +kernel)
  | j + 3, hj => exact absurd hj (by show ¬ j + 3 < 3; omega)⟩
theorem z_sp2_21 : z_SP 21 := ⟨List.mem_of_getElem? (i := 222) (by decide +kernel), List.mem_of_getElem? (i := 223) (by decide +kernel), List.mem_of_getElem? (i := 224) (by decide +kernel), List.mem_of_getElem? (i := 225) (by decide +kernel), fun j hj => by
  match j, hj with
  | 0, _ => exact List.mem_of_getElem? (i := 226) (by decide +kernel)
  | 1, _ => exact List.mem_of_getElem? (i := 227) (by decide +kernel)
  | 2, _ => exact List.mem_of_getElem? (i := 228) (by decide +kernel)
  | 3, _ => exact List.mem_of_getElem? (i := 229) (by decide +kernel)
  | 4, _ => exact List.mem_of_getElem? (i := 230) (by decide +kernel)
  | 5, _ => exact List.mem_of_getElem? (i := 231) (by decide +kernel)
  | j + 6, hj => exact absurd hj (by show ¬ j + 6 < 6; omega)⟩
theorem z_sp2_22 : z_SP 22 := ⟨List.mem_of_getElem? (i := 47) (by decide +kernel), List.mem_of_getElem? (i := 48) (by decide +kernel), List.mem_of_getElem? (i := 49) (by decide +kernel), List.mem_of_getElem? (i := 50) (by decide +kernel), fun j hj => by
  match j, hj with
  | 0, _ => exact List.mem_of_getElem? (i := 51) (by decide +kernel)
  | 1, _ => exact List.mem_of_getElem? (i := 52) (by decide +kernel)
  | 2, _ => exact List.mem_of_getElem? (i := 53) (by decide +kernel)
  | 3, _ => exact List.mem_of_getElem? (i := 54) (by decide +kernel)
  | 4, _ => exact List.mem_of_getElem? (i := 55) (by decide +kernel)
  | j + 5, hj => exact absurd hj (by show ¬ j + 5 < 5; omega)⟩
theorem z_sp2_23 : z_SP 23 := ⟨List.mem_of_getElem? (i := 62) (by decide +kernel), List.mem_of_getElem? (i := 63) (by decide +kernel), List.mem_of_getElem? (i := 64) (by decide +kernel), List.mem_of_getElem? (i := 65) (by decide +kernel), fun j hj => by
  match j, hj with
  | 0, _ => exact List.mem_of_getElem? (i := 66) (by decide +kernel)
  | 1, _ => exact List.mem_of_getElem? (i := 67) (by decide +kernel)
  | 2, _ => exact List.mem_of_getElem? (i := 68) (by decide +kernel)
  | 3, _ => exact List.mem_of_getElem? (i := 69) (by decide +kernel)
  | j + 4, hj => exact absurd hj (by show ¬ j + 4 < 4; omega)⟩
theorem z_sp2_24 : z_SP 24 := ⟨List.mem_of_getElem? (i := 86) (by decide +kernel), List.mem_of_getElem? (i := 87) (by decide +kernel), List.mem_of_getElem? (i := 88) (by decide +kernel), List.mem_of_getElem? (i := 89) (by decide +kernel), fun j hj => by
  match j, hj with
  | 0, _ => exact List.mem_of_getElem? (i := 90) (by decide +kernel)
  | 1, _ => exact List.mem_of_getElem? (i := 91) (by decide +kernel)
  | 2, _ => exact List.mem_of_getElem? (i := 92) (by decide +kernel)
  | j + 3, hj => exact absurd hj (by show ¬ j + 3 < 3; omega)⟩
theorem z_sp2_25 : z_SP 25 := ⟨List.mem_of_getElem? (i := 175) (by decide +kernel), List.mem_of_getElem? (i := 176) (by decide +kernel), List.mem_of_getElem? (i := 177) (by decide +kernel), List.mem_of_getElem? (i := 178) (by decide +kernel), fun j hj => by
  match j, hj with
  | 0, _ => exact List.mem_of_getElem? (i := 179) (by decide +kernel)
  | 1, _ => exact List.mem_of_getElem? (i := 180) (by decide +kernel)
  | 2, _ => exact List.mem_of_getElem? (i := 181) (by decide +kernel)
  | 3, _ => exact List.mem_of_getElem? (i := 182) (by decide +kernel)
  | j + 4, hj => exact absurd hj (by show ¬ j + 4 < 4; omega)⟩
theorem z_sp2_26 : z_SP 26 := ⟨List.mem_of_getElem? (i := 183) (by decide +kernel), List.mem_of_getElem? (i := 184) (by decide +kernel), List.mem_of_getElem? (i := 185) (by decide +kernel), List.mem_of_getElem? (i := 186) (by decide +kernel), fun j hj => by
  match j, hj with
  | 0, _ => exact List.mem_of_getElem? (i := 187) (by decide +kernel)
  | 1, _ => exact List.mem_of_getElem? (i := 188) (by decide +kernel)
  | 2, _ => exact List.mem_of_getElem? (i := 189) (by decide +kernel)
  | 3, _ => exact List.mem_of_getElem? (i := 190) (by decide +kernel)
  | j + 4, hj => exact absurd hj (by show ¬ j + 4 < 4; omega)⟩
theorem z_sp2_27 : z_SP 27 := ⟨List.mem_of_getElem? (i := 9) (by decide +kernel), List.mem_of_getElem? (i := 10) (by decide +kernel), List.mem_of_getElem? (i := 11) (by decide +kernel), List.mem_of_getElem? (i := 12) (by decide +kernel), fun j hj => by
  match j, hj with
  | 0, _ => exact List.mem_of_getElem? (i := 13) (by decide +kernel)
  | 1, _ => exact List.mem_of_getElem? (i := 14) (by decide +kernel)
  | 2, _ => exact List.mem_of_getElem? (i := 15) (by decide +kernel)
  | 3, _ => exact List.mem_of_getElem? (i := 16) (by decide +kernel)
  | 4, _ => exact List.mem_of_getElem? (i := 17) (by decide +kernel)
  | 5, _ => exact List.mem_of_getElem? (i := 18) (by decide +kernel)
  | 6, _ => exact List.mem_of_getElem? (i := 19) (by decide +kernel)
  | j + 7, hj => exact absurd hj (by show ¬ j + 7 < 7; omega)⟩
theorem z_sp2_28 : z_SP 28 := ⟨List.mem_of_getElem? (i := 20) (by decide +kernel), List.mem_of_getElem? (i := 21) (by decide +kernel), List.mem_of_getElem? (i := 22) (by decide +kernel), List.mem_of_getElem? (i := 23) (by decide +kernel), fun j hj => by
  match j, hj with
  | 0, _ => exact List.mem_of_getElem? (i := 24) (by decide +kernel)
  | 1, _ => exact List.mem_of_getElem? (i := 25) (by decide +kernel)
  | 2, _ => exact List.mem_of_getElem? (i := 26) (by decide +kernel)
  | 3, _ => exact List.mem_of_getElem? (i := 27) (by decide +kernel)
  | 4, _ => exact List.mem_of_getElem? (i := 28) (by decide +kernel)
  | 5, _ => exact List.mem_of_getElem? (i := 29) (by decide +kernel)
  | j + 6, hj => exact absurd hj (by show ¬ j + 6 < 6; omega)⟩
theorem z_sp2_29 : z_SP 29 := ⟨List.mem_of_getElem? (i := 30) (by decide +kernel), List.mem_of_getElem? (i := 31) (by decide +kernel), List.mem_of_getElem? (i := 32) (by decide +kernel), List.mem_of_getElem? (i := 33) (by decide +kernel), fun j hj => by
  match j, hj with
  | 0, _ => exact List.mem_of_getElem? (i := 34) (by decide +kernel)
  | 1, _ => exact List.mem_of_getElem? (i := 35) (by decide +kernel)
  | 2, _ => exact List.mem_of_getElem? (i := 36) (by decide +kernel)
  | j + 3, hj => exact absurd hj (by show ¬ j + 3 < 3; omega)⟩
theorem z_sp2_30 : z_SP 30 := ⟨List.mem_of_getElem? (i := 37) (by decide +kernel), List.mem_of_getElem? (i := 38) (by decide +kernel), List.mem_of_getElem? (i := 39) (by decide +kernel), List.mem_of_getElem? (i := 40) (by decide +kernel), fun j hj => by
  match j, hj with
  | 0, _ => exact List.mem_of_getElem? (i := 41) (by decide +kernel)
  | 1, _ => exact List.mem_of_getElem? (i := 42) (by decide +kernel)
  | 2, _ => exact List.mem_of_getElem? (i := 43) (by decide +kernel)
  | 3, _ => exact List.mem_of_getElem? (i := 44) (by decide +kernel)
  | 4, _ => exact List.mem_of_getElem? (i := 45) (by decide +kernel)
  | 5, _ => exact List.mem_of_getElem? (i := 46) (by decide +kernel)
  | j + 6, hj => exact absurd hj (by show ¬ j + 6 < 6; omega)⟩
theorem z_sp2_31 : z_SP 31 := ⟨List.mem_of_getElem? (i := 56) (by decide +kernel), List.mem_of_getElem? (i := 57) (by decide +kernel), List.mem_of_getElem? (i := 58) (by decide +kernel), List.mem_of_getElem? (i := 59) (by decide +kernel), fun j hj => by
  match j, hj with
  | 0, _ => exact List.mem_of_getElem? (i := 60) (by decide +kernel)
  | 1, _ => exact List.mem_of_getElem? (i := 61) (by decide +kernel)
  | j + 2, hj => exact absurd hj (by show ¬ j + 2 < 2; omega)⟩
theorem z_sp2_32 : z_SP 32 := ⟨List.mem_of_getElem? (i := 70) (by decide +kernel), List.mem_of_getElem? (i := 71) (by decide +kernel), List.mem_of_getElem? (i := 72) (by decide +kernel), List.mem_of_getElem? (i := 73) (by decide +kernel), fun j hj => by
  match j, hj with
  | 0, _ => exact List.mem_of_getElem? (i := 74) (by decide +kernel)
  | 1, _ => exact List.mem_of_getElem? (i := 75) (by decide +kernel)
  | 2, _ => exact List.mem_of_getElem? (i := 76) (by decide +kernel)
  | 3, _ => exact List.mem_of_getElem? (i := 77) (by decide +kernel)
  | j + 4, hj => exact absurd hj (by show ¬ j + 4 < 4; omega)⟩
theorem z_sp2_33 : z_SP 33 := ⟨List.mem_of_getElem? (i := 78) (by decide +kernel), List.mem_of_getElem? (i := 79) (by decide +kernel), List.mem_of_getElem? (i := 80) (by decide +kernel), List.mem_of_getElem? (i := 81) (by decide +kernel), fun j hj => by
  match j, hj with
  | 0, _ => exact List.mem_of_getElem? (i := 82) (by decide +kernel)
  | 1, _ => exact List.mem_of_getElem? (i := 83) (by decide +kernel)
  | 2, _ => exact List.mem_of_getElem? (i := 84) (by decide +kernel)
  | 3, _ => exact List.mem_of_getElem? (i := 85) (by decide +kernel)
  | j + 4, hj => exact absurd hj (by show ¬ j + 4 < 4; omega)⟩
theorem z_sp2_34 : z_SP 34 := ⟨List.mem_of_getElem? (i := 93) (by decide +kernel), List.mem_of_getElem? (i := 94) (by decide +kernel), List.mem_of_getElem? (i := 95) (by decide +kernel), List.mem_of_getElem? (i := 96) (by decide +kernel), fun j hj => by
  match j, hj with
  | 0, _ => exact List.mem_of_getElem? (i := 97) (by decide +kernel)
  | 1, _ => exact List.mem_of_getElem? (i := 98) (by decide +kernel)
  | 2, _ => exact List.mem_of_getElem? (i := 99) (by decide +kernel)
  | 3, _ => exact List.mem_of_getElem? (i := 100) (by decide +kernel)
  | 4, _ => exact List.mem_of_getElem? (i := 101) (by decide +kernel)
  | 5, _ => exact List.mem_of_getElem? (i := 102) (by decide +kernel)
  | j + 6, hj => exact absurd hj (by show ¬ j + 6 < 6; omega)⟩
theorem z_sp2_35 : z_SP 35 := ⟨List.mem_of_getElem? (i := 103) (by decide +kernel), List.mem_of_getElem? (i := 104) (by decide +kernel), List.mem_of_getElem? (i := 105) (by decide +kernel), List.mem_of_getElem? (i := 106) (by decide +kernel), fun j hj => by
  match j, hj with
  | 0, _ => exact List.mem_of_getElem? (i := 107) (by decide +kernel)
  | 1, _ => exact List.mem_of_getElem? (i := 108) (by decide +kernel)
  | 2, _ => exact List.mem_of_getElem? (i := 109) (by decide +kernel)
  | 3, _ => exact List.mem_of_getElem? (i := 110) (by decide +kernel)
  | 4, _ => exact List.mem_of_getElem? (i := 111) (by decide +kernel)
  | j + 5, hj => exact absurd hj (by show ¬ j + 5 < 5; omega)⟩
theorem z_sp2_36 : z_SP 36 := ⟨List.mem_of_getElem? (i := 112) (by decide +kernel), List.mem_of_getElem? (i := 113) (by decide +kernel), List.mem_of_getElem? (i := 114) (by decide +kernel), List.mem_of_getElem? (i := 115) (by decide +kernel), fun j hj => by
  match j, hj with
  | 0, _ => exact List.mem_of_getElem? (i := 116) (by decide +kernel)
  | 1, _ => exact List.mem_of_getElem? (i := 117) (by decide +kernel)
  | 2, _ => exact List.mem_of_getElem? (i := 118) (by decide +kernel)
  | 3, _ => exact List.mem_of_getElem? (i := 119) (by decide +kernel)
  | 4, _ => exact List.mem_of_getElem? (i := 120) (by decide +kernel)
  | j + 5, hj => exact absurd hj (by show ¬ j + 5 < 5; omega)⟩
theorem z_sp2_37 : z_SP 37 := ⟨List.mem_of_getElem? (i := 121) (by decide +kernel), List.mem_of_getElem? (i := 122) (by decide +kernel), List.mem_of_getElem? (i := 123) (by decide +kernel), List.mem_of_getElem? (i := 124) (by decide +kernel), fun j hj => by
  match j, hj with
  | 0, _ => exact List.mem_of_getElem? (i := 125) (by decide +kernel)
  | 1, _ => exact List.mem_of_getElem? (i := 126) (by decide +kernel)
  | 2, _ => exact List.mem_of_getElem? (i := 127) (by decide +kernel)
  | 3, _ => exact List.mem_of_getElem? (i := 128) (by decide +kernel)
  | 4, _ => exact List.mem_of_getElem? (i := 129) (by decide +kernel)
  | j + 5, hj => exact absurd hj (by show ¬ j + 5 < 5; omega)⟩
theorem z_sp2_38 : z_SP 38 := ⟨List.mem_of_getElem? (i := 130) (by decide +kernel), List.mem_of_getElem? (i := 131) (by decide +kernel), List.mem_of_getElem? (i := 132) (by decide +kernel), List.mem_of_getElem? (i := 133) (by decide +kernel), fun j hj => by
  match j, hj with
  | 0, _ => exact List.mem_of_getElem? (i := 134) (by decide +kernel)
  | 1, _ => exact List.mem_of_getElem? (i := 135) (by decide +kernel)
  | 2, _ => exact List.mem_of_getElem? (i := 136) (by decide +kernel)
  | 3, _ => exact List.mem_of_getElem? (i := 137) (by decide +kernel)
  | 4, _ => exact List.mem_of_getElem? (i := 138) (by decide +kernel)
  | j + 5, hj => exact absurd hj (by show ¬ j + 5 < 5; omega)⟩
theorem z_sp2_39 : z_SP 39 := ⟨List.mem_of_getElem? (i := 139) (by decide +kernel), List.mem_of_getElem? (i := 140) (by decide +kernel), List.mem_of_getElem? (i := 141) (by decide +kernel), List.mem_of_getElem? (i := 142) (by decide +kernel), fun j hj => by
  match j, hj with
  | 0, _ => exact List.mem_of_getElem? (i := 143) (by decide +kernel)
  | 1, _ => exact List.mem_of_getElem? (i := 144) (by decide +kernel)
  | 2, _ => exact List.mem_of_getElem? (i := 145) (by decide +kernel)
  | 3, _ => exact List.mem_of_getElem? (i := 146) (by decide +kernel)
  | j + 4, hj => exact absurd hj (by show ¬ j + 4 < 4; omega)⟩
theorem z_sp2_40 : z_SP 40 := ⟨List.mem_of_getElem? (i := 147) (by decide +kernel), List.mem_of_getElem? (i := 148) (by decide +kernel), List.mem_of_getElem? (i := 149) (by decide +kernel), List.mem_of_getElem? (i := 150) (by decide +kernel), fun j hj => by
  match j, hj with
  | 0, _ => exact List.mem_of_getElem? (i := 151) (by decide +kernel)
  | 1, _ => exact List.mem_of_getElem? (i := 152) (by decide +kernel)
  | 2, _ => exact List.mem_of_getElem? (i := 153) (by decide +kernel)
  | 3, _ => exact List.mem_of_getElem? (i := 154) (by decide +kernel)
  | 4, _ => exact List.mem_of_getElem? (i := 155) (by decide +kernel)
  | 5, _ => exact List.mem_of_getElem? (i := 156) (by decide +kernel)
  | j + 6, hj => exact absurd hj (by show ¬ j + 6 < 6; omega)⟩
theorem z_sp2_41 : z_SP 41 := ⟨List.mem_of_getElem? (i := 157) (by decide +kernel), List.mem_of_getElem? (i := 158) (by decide +kernel), List.mem_of_getElem? (i := 159) (by decide +kernel), List.mem_of_getElem? (i := 160) (by decide +kernel), fun j hj => by
  match j, hj with
  | 0, _ => exact List.mem_of_getElem? (i := 161) (by decide +kernel)
  | 1, _ => exact List.mem_of_getElem? (i := 162) (by decide +kernel)
  | 2, _ => exact List.mem_of_getElem? (i := 163) (by decide +kernel)
  | 3, _ => exact List.mem_of_getElem? (i := 164) (by decide +kernel)
  | j + 4, hj => exact absurd hj (by show ¬ j + 4 < 4; omega)⟩
theorem z_sp2_42 : z_SP 42 := ⟨List.mem_of_getElem? (i := 165) (by decide +kernel), List.mem_of_getElem? (i := 166) (by decide +kernel), List.mem_of_getElem? (i := 167) (by decide +kernel), List.mem_of_getElem? (i := 168) (by decide +kernel), fun j hj => by
  match j, hj with
  | 0, _ => exact List.mem_of_getElem? (i := 169) (by decide +kernel)
  | 1, _ => exact List.mem_of_getElem? (i := 170) (by decide +kernel)
  | 2, _ => exact List.mem_of_getElem? (i := 171) (by decide +kernel)
  | 3, _ => exact List.mem_of_getElem? (i := 172) (by decide +kernel)
  | 4, _ => exact List.mem_of_getElem? (i := 173) (by decide +kernel)
  | 5, _ => exact List.mem_of_getElem? (i := 174) (by decide +kernel)
  | j + 6, hj => exact absurd hj (by show ¬ j + 6 < 6; omega)⟩
theorem z_sp2 : ∀ k : Nat, 0 < k → k < 43 → z_SP k := by
  intro k h0 h1
  match k, h0, h1 with
  | 1, _, _ => exact z_sp2_1
  | 2, _, _ => exact z_sp2_2
  | 3, _, _ => exact z_sp2_3
  | 4, _, _ => exact z_sp2_4
  | 5, _, _ => exact z_sp2_5
  | 6, _, _ => exact z_sp2_6
  | 7, _, _ => exact z_sp2_7
  | 8, _, _ => exact z_sp2_8
  | 9, _, _ => exact z_sp2_9
  | 10, _, _ => exact z_sp2_10
  | 11, _, _ => exact z_sp2_11
  | 12, _, _ => exact z_sp2_12
  | 13, _, _ => exact z_sp2_13
  | 14, _, _ => exact z_sp2_14
  | 15, _, _ => exact z_sp2_15
  | 16, _, _ => exact z_sp2_16
  | 17, _, _ => exact z_sp2_17
  | 18, _, _ => exact z_sp2_18
  | 19, _, _ => exact z_sp2_19
  | 20, _, _ => exact z_sp2_20
  | 21, _, _ => exact z_sp2_21
  | 22, _, _ => exact z_sp2_22
  | 23, _, _ => exact z_sp2_23
  | 24, _, _ => exact z_sp2_24
  | 25, _, _ => exact z_sp2_25
  | 26, _, _ => exact z_sp2_26
  | 27, _, _ => exact z_sp2_27
  | 28, _, _ => exact z_sp2_28
  | 29, _, _ => exact z_sp2_29
  | 30, _, _ => exact z_sp2_30
  | 31, _, _ => exact z_sp2_31
  | 32, _, _ => exact z_sp2_32
  | 33, _, _ => exact z_sp2_33
  | 34, _, _ => exact z_sp2_34
  | 35, _, _ => exact z_sp2_35
  | 36, _, _ => exact z_sp2_36
  | 37, _, _ => exact z_sp2_37
  | 38, _, _ => exact z_sp2_38
  | 39, _, _ => exact z_sp2_39
  | 40, _, _ => exact z_sp2_40
  | 41, _, _ => exact z_sp2_41
  | 42, _, _ => exact z_sp2_42
  | 0, h0, _ => exact absurd h0 (Nat.lt_irrefl 0)
  | k + 43, _, h1 => omega
theorem z_sp3 : Cond.eq (.static "java/lang/String" "COMPACT_STRINGS" "Z") (.int 1) ∈ z_FC ∧ Cond.isRef (.static "jdk/internal/util/Preconditions" "SIOOBE_FORMATTER" "Ljava/util/function/BiFunction;") ∈ z_FC := ⟨List.mem_of_getElem? (i := 4) (by decide +kernel), List.mem_of_getElem? (i := 5) (by decide +kernel)⟩
theorem z_sp4 : lw_tbl[567]? = some (Cond.laysStatic "java/lang/String" "COMPACT_STRINGS" "Z") ∧ lw_tbl[583]? = some (Cond.laysStatic "jdk/internal/util/Preconditions" "SIOOBE_FORMATTER" "Ljava/util/function/BiFunction;") ∧ lw_tbl[258]? = some (Cond.arrayOver (.object "LongBoats$Harbour")) := by decide +kernel
def z_m0 : zM := (0, fun _ _ => none, fun _ _ => 0, fun _ _ => 0)
end
section
theorem z_law (L : Nat) (hL : L ≤ 4096) (xs : Nat → Int32) : ∃ (N : Nat) (mf : zM), z_run (some (L, xs)) (z_F 100) cd_Law_law N (0, [some (.ref z_sb), none, none, none], [], z_m0) = some (some (.int 1), mf) ∧ mf.1 ≤ 86 := by
  sorry
theorem z_sl86 : ∀ k ∈ List.range 87, z_sl k ≤ 100000 := by decide +kernel
theorem whole_start {p : Program} {e : Env} {s : State} {m : MethodId} {below : List Frame} {meth : Method} {c : Code} (l : Launch) (hflags : l.flags = flags0) {b L : Nat} {xs : Nat → Int32} (hL : L ≤ 4096) (C0 : lw_At p s m meth c b L xs) : W p l e room_1 s m #[Value.ref b] below meth c s.heap [] 0 0 (lw_Z below #[Value.ref b] s) (entryFrame m ([Value.ref b] : List Value).toArray 4) := by
  obtain ⟨hx, hb, hr, hml, hown, hts, hX, hbl, hlocks, hgv⟩ := id C0
  obtain ⟨N, mf, hrun, hnf⟩ := z_law L hL xs
  have hfl := flat_of_before _ hgv
  have htb : ∀ w ∈ z_tb, w.before #[Value.ref b] s = true := fun w h => hts w (List.mem_filter.mp h).1
  have hA : ∀ q : Nat, s.heap.size ≤ q → (fun q : Nat => s.heap.size ≤ q) q := fun _ h => h
  have hAn : ∀ a : Nat, a < s.heap.size → ¬ (fun q : Nat => s.heap.size ≤ q) a := fun a h => Nat.not_le.mpr h
  have hkn : ∀ ci : Nat, ∃ q : ClassId × (Nat → Nat), ∀ r : vw_C, zC[ci]? = some r → u_Kn s r.1 r.2.1 r.2.2 q.1 q.2 := by
    intro ci
    cases hc : zC[ci]? with
    | none => exact ⟨(m.cls, fun _ => 0), fun r h => by cases h⟩
    | some r =>
      obtain ⟨c1, -, -, c5, -, -⟩ := z_ck ci r hc
      obtain ⟨cC, iS, h⟩ := u_known (n := r.2.2) htb c1 (htb _ c5)
      exact ⟨(cC, iS), fun r' h' => by cases h'; exact h⟩
  obtain ⟨dq, hdq⟩ := Classical.axiomOfChoice hkn
  have hstr : ∀ k : Nat, ∃ q : Nat × Nat, 0 < k → k < 43 → vk_R (z_sk k).1 (z_sk k).2.1 (z_sk k).2.2 q.1 s ∧ va_O "java/lang/String" q.1 (fun q : Nat => s.heap.size ≤ q) s s.heap ∧ va_OF "java/lang/String" "coder" "B" (.int 0) q.1 (fun q : Nat => s.heap.size ≤ q) s s.heap ∧ va_OF "java/lang/String" "value" "[B" (.ref q.2) q.1 (fun q : Nat => s.heap.size ≤ q) s s.heap ∧ va_T .byte q.2 (z_tx k).length (fun j => .int ((z_tx k).getD j 0)) (fun q : Nat => s.heap.size ≤ q) s s.heap := by
    intro k
    by_cases h0 : 0 < k ∧ k < 43
    · obtain ⟨h1, h2, h3, h4, h5⟩ := z_sp2 k h0.1 h0.2
      have h6 := z_sp1 k (List.mem_range.mpr h0.2) h0.1
      obtain ⟨adK, adV, hS, hev⟩ := vk_Sof (args := #[Value.ref b]) (s := s) (N := 1) (tm := fun _ => z_stm k) (len := [(z_tx k).length]) (byt := [z_tx k]) (A := fun q : Nat => s.heap.size ≤ q) (fun i hi => by
        have : i = 0 := by omega
        subst this
        exact Nat.lt_trans (z_tx_ok k).1 (by decide)) (fun i hi => hfl _ h1) (fun i hi => hfl _ h2) (fun i hi => hfl _ h3) (fun i hi => by
        have : i = 0 := by omega
        subst this
        exact hfl _ h4) (fun i hi j hj => by
        have : i = 0 := by omega
        subst this
        exact hfl _ (h5 j hj)) (fun i j hi hj hne => by omega) hAn
      have hs := hS.1 0 (by omega)
      have he := hev 0 (by omega)
      refine ⟨(adK 0, adV 0), fun _ _ => ⟨vk_R.of (A := #[Value.ref b]) (hts _ (List.mem_of_getElem? h6)) he, hs.1, hs.2.1, hs.2.2.1, hs.2.2.2⟩⟩
    · exact ⟨(0, 0), fun a b => absurd ⟨a, b⟩ h0⟩
  obtain ⟨sq, hsq⟩ := Classical.axiomOfChoice hstr
  have En : z_En (fun k => if k = 0 then b else (sq k).1) (fun k => (sq k).2) (fun q : Nat => s.heap.size ≤ q) s s.heap := by
    refine ⟨va_AO.of (hts _ (List.mem_of_getElem? z_sp4.2.2)), fun k h0 h1 => ?_, va_Zof (hts _ (List.mem_of_getElem? z_sp4.1)) (htb _ zx_iS) (va_eqt (hfl _ z_sp3.1)) hAn, fun w hw => ?_, va_Zqof (hts _ (List.mem_of_getElem? z_sp4.2.1)) (htb _ zx_iP) (hfl _ z_sp3.2) hAn⟩
    · have hk : ¬ k = 0 := by omega
      simp only [if_neg hk]
      exact hsq k h0 h1
    · have h1 := List.mem_filter.mp hw
      have h2 := hts w h1.1
      have h3 := h1.2
      cases w <;> first | exact va_Nw.of rfl h2 | cases h3
  have C : z_Cx p s m #[Value.ref b] meth c "LongBoatsLaw" code 4 false (some .boolean) := ⟨hx, hb, hr, hml, hown, htb, hlocks, fun h => by cases h⟩
  have hmono := z_run_le ⟨fun k as m r h9 => ((z_FS l z_wd z_ok 100).2.2.2.1 k as m r h9).1, fun k as m r h9 => ((z_FS l z_wd z_ok 100).2.2.2.2 k as m r h9).1⟩ hrun
  have hsl := z_sl86 mf.1 (List.mem_range.mpr (by omega))
  have hRm : z_Rm room_1 0 mf.1 := ⟨by show mf.1 - 0 ≤ 600000; omega, by show z_sl mf.1 - z_sl 0 ≤ 7302250; omega, by decide, by decide⟩
  have key := z_run_sound (l := l) (e := e) (below := below) (R := room_1) (D := (fun k => (dq k).1, fun k => (dq k).2)) (ad0 := fun _ => 0) (n0 := 0) (nf := mf.1) (Q := lw_Z below #[Value.ref b] s) (cd := cd_Law_law) C En hA hRm (d := 100) (by decide) (by decide) z_wd (z_FS l z_wd z_ok 100) (sc := some (L, xs)) (fun L' xs' h9 => by cases h9; exact ⟨hX, hbl, hAn _ hbl⟩) (Rt := fun v9 m9 => v9 = some (.int 1) ∧ m9 = mf) ?_ z_lw N _ (some (.int 1), mf) hrun ⟨rfl, rfl⟩
  · have hl := lv_entry ([Value.ref b] : List Value) (n := 4) (Nat.le_of_ble_eq_true rfl)
    rw [lg_entry_eq]
    generalize (lg_sl ([Value.ref b] : List Value) ++ List.replicate (4 - (lg_sl ([Value.ref b] : List Value)).length) Slot.unset).toArray = ls at hl ⊢
    have hl : lv_has ls 4 [(0, .ref b)] := hl
    have h2 := key.2 (fun _ => 0) (fun _ => m.cls) [] s.heap [] ls ⟨⟨fun k r h => hdq k r h, fun k q h => (by simp at h)⟩, fun k q h => (by simp [z_ws, z_m0] at h), ⟨fun i j p q h => (by simp [z_ws, z_m0] at h), fun k q h => (by simp [z_ws, z_m0] at h)⟩, va_S.rf, fun k ty h => absurd h (Nat.not_lt_zero _), ⟨fun k f j h => (by cases h), fun k _ f => ⟨rfl, rfl, rfl⟩, Nat.zero_le _⟩, Nat.le_refl _, fun _ _ => rfl⟩ ⟨hl.1, hl.2.1, rfl, fun k v h => ?_⟩ (fun v h => absurd h List.not_mem_nil) (fun k v h => ?_)
    · exact h2
    · match k, h with
      | 0, h =>
        cases h
        exact hl.2.2 _ List.mem_cons_self
      | 1, h => cases h
      | 2, h => cases h
      | 3, h => cases h
      | k + 4, h => simp [z_at] at h
    · match k, h with
      | 0, h =>
        cases h
        exact Or.inr ⟨Nat.le_refl _, by decide⟩
      | 1, h => cases h
      | 2, h => cases h
      | 3, h => cases h
      | k + 4, h => simp [z_at] at h
  · rintro v9 m9 ⟨rfl, rfl⟩
    refine ⟨Nat.le_refl _, fun ad' ac' tys' H locs ls pc ins hSt hri hdg => ?_⟩
    obtain ⟨rfl, hrt⟩ := hri
    refine va_forget (fun q hq => hSt.2.2.2.1.2.2 q hq) ?_
    refine W.widen (k := 600000) (n := 7302250) (by omega) (by omega) ?_
    exact lw_ret hx hb hr hlocks hdg
-- ===== YOUR PART ENDS =====
set_option maxHeartbeats 4000000 in
theorem lw_walk (l : Launch) (hflags : l.flags = flags0) (b : Addr) (xs : List Int32) : MetFree l x (headSpec (Jvm.Cond.code x code maxLocals ret :: tables_1) room_1) (lw_P b xs) (fun _ _ _ _ _ => True) lw_Q := by
  refine MetFree.of_bodyS (code := code) (maxLocals := maxLocals) (ret := ret) (by decide) ?_ ?_
  · intro args s m h hn
    obtain ⟨meth, c, h1, h2, h3, h4, h5, h6, -, -⟩ := Cond.code_spec hn (atoms_spec (ws := Jvm.Cond.code x code maxLocals ret :: tables_1) h _ List.mem_cons_self)
    exact ⟨meth, c, h1, h2, h3, h4, h5, h6⟩
  · intro p e s m args below meth c s₁ B hml0 hP _
    obtain ⟨rfl, hx, hbd, hgv⟩ := hP
    obtain ⟨scr, harrAt, hlist, hof, hsmall⟩ := hx
    obtain ⟨hcb, hkn, -, -⟩ := State.arrayAt?_spec harrAt
    have hown : s.vm.findClass R_law = some m.cls := findClass_of_methodNamed B.named
    have hts0 : ∀ c ∈ (Jvm.Cond.code x code maxLocals ret :: tables_1), c.before #[Value.ref b] s = true := atoms_spec (ws := Jvm.Cond.code x code maxLocals ret :: tables_1) B.pre
    have hts : ∀ w ∈ lw_tbl, w.before #[Value.ref b] s = true := k2_hts_sels lw_privs (fun w hw => hts0 w (List.mem_cons_of_mem _ hw)) lw_privs_ok
    have hml : c.maxLocals = 4 := B.maxLocals_eq (hts0 _ List.mem_cons_self)
    have X₀ : Stand p l e room_1 s m #[Value.ref b] below meth c s₁ [] 0 0 := Stand.of_body B
    have hh0 : s₁.heap = s.heap := by rw [B.state]; rfl
    have hsz : scr.slots.size = xs.length := by rw [← Array.length_toList, hlist, List.length_map]
    have hval : ∀ j : Nat, j < xs.length → scr.slots[j]? = some (.int (xs.getD j 0)) := fun j hj => by
      rw [← Array.getElem?_toList, hlist]
      simp [hj]
    have hbl : b < s.heap.size := (Array.getElem?_eq_some_iff.mp hcb).1
    have hX : va_X b xs.length (fun j => xs.getD j 0) s s.heap := ⟨scr, hcb, hof, hkn, hsz, hval⟩
    have K : W p l e room_1 s m #[Value.ref b] below meth c s₁.heap [] 0 0 (lw_Z below #[Value.ref b] s) (entryFrame m ([Value.ref b] : List Value).toArray 4) := by
      rw [hh0]
      exact whole_start l hflags hbd ⟨B.exec, B.bytes, B.returns, hml, hown, hts, hX, hbl, B.notSynchronized, hgv⟩
    obtain ⟨t, a1, o, b1, b2, b3⟩ := K s₁ rfl X₀
    exact ⟨t, o, a1, b1, b2, b3⟩
theorem lw_pre_spec {args : Array Value} {s : State} (h : (Jvm.Cond.and given_1 narrow_1).before args s = true) (hr : rest_1_c.before args s = true) : ∃ (b : Addr) (xs : List Int32), lw_P b xs args s := by
  have hs := flat_of_before _ h
  have hq := flat_of_before _ hr
  have hc : (Cond.count 1).before args s = true := hs _ (by decide +kernel)
  have harr : (Cond.arrayOf (.arg 0) .int).before args s = true := hs _ (by decide +kernel)
  have hle : (Cond.le (.length (.arg 0)) (.int 4096)).before args s = true := hs _ (by decide +kernel)
  have hlen : (Cond.isInt (.length (.arg 0))).before args s = true := hq _ (by decide +kernel)
  have hall : (Cond.all (.arg 0) (.isInt (.elem (.arg 0) (.index 0)))).before args s = true := hq _ (by decide +kernel)
  obtain ⟨b, xs, hb, hx⟩ := State.ints_of_pre rfl harr hlen hall
  have hsm : xs.length < 2 ^ 31 := hx.choose_spec.2.2.2
  have hev : (Term.length (.arg 0)).eval args s none [] s = some (.int xs.length.toInt32) := hx.length_eval hb
  have hv := Cond.le_ints hev (show (Term.int 4096).eval args s none [] s = some (.int 4096) from rfl)
  have hd : xs.length.toInt32 ≤ 4096 := by
    simpa [Cond.before, Cond.holds, hv] using hle
  have hN : xs.length ≤ 4096 := (Int32.ofNat_le_ofNat hsm (by decide)).mp (show Int32.ofNat xs.length ≤ Int32.ofNat 4096 from hd)
  exact ⟨b, xs, Cond.one_arg hc (show args[0]? = some (.ref b) from hb), hx, hN, h⟩
theorem lw_comes (l : Launch) (hflags : l.flags = flags0) : Comes l x (Jvm.Cond.code x code maxLocals ret :: tables_1) room_1 (fun tb e args s => Calls_1 tb e args s ∧ rest_1 tb e args s ∧ Pre_1 tb e args s)
    (fun _ _ args s o t => lw_Q args s o t) := by
  intro p e ha hc hk s m args below hf hfit hheap happ hpre
  obtain ⟨b, xs, hP⟩ := lw_pre_spec hpre.2.2 hpre.2.1
  obtain ⟨k, o, h1, h2, h3, hQ⟩ := lw_walk l hflags b xs p e ha hc hk s m args below hf ((Spec.applies_iff_loose hf).mp happ).1 hP trivial
  exact ⟨k, o, h1, h2, h3, hQ⟩
theorem lw_frame {s t : State} {o : Outcome} {args : Array Value} (h : Framed s o t [] 600000 7302250) :
    Framed s o t (fieldLocs frame_1_writes args s ++ arrayLocs frame_1_arrays args s ++ staticLocs frame_1_statics s) 600000 7302250 := h
theorem lw_limb (L : Cond) (hL : ∀ (args : Array Value) (s t : State), L.after args s (.returned (some (.int 1))) t = true) :
    ArmFor flags0 classFile x code maxLocals ret World_1 tables_1 room_1 Calls_1 rest_1 Pre_1
      (fun tb e a s o t => postC L tb e a s o t ∧ Framed s o t (fieldLocs frame_1_writes a s ++ arrayLocs frame_1_arrays a s ++ staticLocs frame_1_statics s) 600000 7302250) := by
  intro l hflags _ _ p e ha hc hk s m args below hf hfit hheap happ hpre
  obtain ⟨k, o, h1, h2, h3, rfl, hF⟩ := lw_comes l hflags p e ha hc hk s m args below hf hfit hheap happ hpre
  exact ⟨k, _, h1, h2, h3, hL args s _, lw_frame hF⟩
theorem i_vc : Claimed_1_1 ∧ Claimed_1_2 := ⟨lw_limb limb_1_1 (fun args s t => by simp [limb_1_1, Cond.after, Cond.holds, Cond.value]), lw_limb limb_1_2 (fun args s t => Cond.after_iff.mpr (by
  first | (rw [show limb_1_2 = Cond.eq .result (.int 1) from rfl, Cond.eq_ints (x := 1) (y := 1) rfl rfl]; simp; done) | (simp [limb_1_2, Cond.value, Term.eval]; done)))⟩
end
